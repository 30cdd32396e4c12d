section
/-! THE REFERENCE'S RULE, and the world function that it does -/
section
/-- the least below a bound, the greatest below a bound -/
noncomputable def lst (P : Nat → Prop) : Nat → Option Nat
  | 0 => none
  | k + 1 => match lst P k with
    | some i => some i
    | none => cif (P k) (some k) none
noncomputable def hst (P : Nat → Prop) : Nat → Option Nat
  | 0 => none
  | k + 1 => cif (P k) (some k) (hst P k)
theorem lst_no {P : Nat → Prop} : ∀ k, (∀ i, i < k → ¬ P i) → lst P k = none
  | 0, _ => rfl
  | k + 1, h => by
    unfold lst
    rw [lst_no k (fun i hi => h i (by omega))]
    exact cif_neg (h k (by omega))
theorem lst_is {P : Nat → Prop} {i : Nat} (hp : P i) (hl : ∀ j, j < i → ¬ P j) : ∀ k, i < k → lst P k = some i
  | 0, h => absurd h (by omega)
  | k + 1, h => by
    unfold lst
    by_cases e : i < k
    · rw [lst_is hp hl k e]
    · have e : i = k := by omega
      subst e
      rw [lst_no i hl]
      exact cif_pos hp
theorem lst_inv {P : Nat → Prop} {i : Nat} : ∀ k, lst P k = some i → i < k ∧ P i ∧ ∀ j, j < i → ¬ P j
  | 0, h => by cases h
  | k + 1, h => by
    unfold lst at h
    cases e : lst P k with
    | some j =>
      rw [e] at h
      cases h
      have := lst_inv k e
      exact ⟨by omega, this.2⟩
    | none =>
      rw [e] at h
      have h : cif (P k) (some k) none = some i := h
      by_cases c : P k
      · rw [cif_pos c] at h
        have e5 : k = i := Option.some.inj h
        rw [← e5]
        refine ⟨by omega, c, fun j hj z => ?_⟩
        by_cases m : ∃ x, x < k ∧ P x
        · obtain ⟨x, x1, x2⟩ := m
          have key : ∀ y, y < k → P y → lst P k ≠ none := by
            intro y hy py hn
            have : ∀ q, q ≤ k → lst P q = none → ∀ i, i < q → ¬ P i := by
              intro q
              induction q with
              | zero => intro _ _ i hi; exact absurd hi (by omega)
              | succ q ih =>
                intro hq hl2 i hi
                unfold lst at hl2
                cases e3 : lst P q with
                | some a => rw [e3] at hl2; cases hl2
                | none =>
                  rw [e3] at hl2
                  have hl2 : cif (P q) (some q) none = none := hl2
                  by_cases e4 : i = q
                  · subst e4
                    intro z
                    rw [cif_pos z] at hl2
                    cases hl2
                  · exact ih (by omega) e3 i (by omega)
            exact this k (Nat.le_refl _) hn y hy py
          exact key x x1 x2 e
        · exact m ⟨j, hj, z⟩
      · rw [cif_neg c] at h
        cases h
theorem hst_no {P : Nat → Prop} : ∀ k, (∀ i, i < k → ¬ P i) → hst P k = none
  | 0, _ => rfl
  | k + 1, h => by
    unfold hst
    rw [cif_neg (h k (by omega))]
    exact hst_no k (fun i hi => h i (by omega))
theorem hst_is {P : Nat → Prop} {i : Nat} (hp : P i) : ∀ k, i < k → (∀ j, i < j → j < k → ¬ P j) → hst P k = some i
  | 0, h, _ => absurd h (by omega)
  | k + 1, h, hl => by
    unfold hst
    by_cases e : i = k
    · subst e
      exact cif_pos hp
    · rw [cif_neg (hl k (by omega) (by omega))]
      exact hst_is hp k (by omega) (fun j a b => hl j a (by omega))
theorem hst_inv {P : Nat → Prop} {i : Nat} : ∀ k, hst P k = some i → i < k ∧ P i
  | 0, h => by cases h
  | k + 1, h => by
    unfold hst at h
    by_cases c : P k
    · rw [cif_pos c] at h
      cases h
      exact ⟨by omega, c⟩
    · rw [cif_neg c] at h
      have := hst_inv k h
      exact ⟨by omega, this.2⟩
end
/-- what a node's rules ask of the world -/
def nOK (F T : Nat) (w : Wd) (n : Nat) : Prop := (0 ≤ wN w n 0 ∧ wN w n 0 ≤ 1) ∧ (1 ≤ wN w n 1 ∧ wN w n 1 ≤ 41) ∧ (0 ≤ wN w n 2 ∧ wN w n 2 < 16) ∧ (0 ≤ wN w n 3 ∧ wN w n 3 ≤ 2) ∧ (-1 ≤ wN w n 4 ∧ wN w n 4 ≤ wN w n 2) ∧ (-1 ≤ wN w n 5 ∧ wN w n 5 ≤ wN w n 2) ∧ (0 ≤ wN w n 6 ∧ wN w n 6 ≤ 1) ∧ (0 ≤ wN w n 7 ∧ wN w n 7 ≤ 1) ∧ (0 ≤ wN w n 8 ∧ wN w n 8 ≤ 1) ∧ (0 ≤ wN w n 12 ∧ wN w n 12 ≤ 1000) ∧ (0 ≤ wN w n 15 ∧ wN w n 15 ≤ 5 * wN w n 2 + 2 + wN w n 3 + (if wN w n 5 = wN w n 2 then 1 else 0)) ∧ (-1 ≤ wN w n 16 ∧ wN w n 16 ≤ 300) ∧ (0 ≤ wN w n 17 ∧ wN w n 17 ≤ 3 * wN w n 2 + 1 + wN w n 3) ∧ ((wN w n 4 = wN w n 2 → wN w n 5 = wN w n 2) ∧ (wN w n 5 = wN w n 2 → wN w n 3 = 2 ∨ wN w n 4 = wN w n 2)) ∧ (∀ q, q < (wP w n).length → bg (pg (wP w n) q) 0 < 16 ∧ bg (pg (wP w n) q) 1 < 16) ∧ wfN T w n ∧ (∀ q m, q < 32 → wY w n 4 q = some m → -1 ≤ prV m ∧ prV m < 16) ∧ (∀ (j : Nat) y, (j : Int) < wN w n 17 → wY w n 8 j = some y → bg y 0 = 1 → (bg y 4 : Int) ≤ wN w n 2) ∧ (∀ s m, s < T → snF w n T F s → wY w n 3 s = some m → 2 ≤ tw m 1 ∧ tw m 1 ≤ 41 ∧ bkOK (snB m))
section
variable {n F T : Nat} {w : Wd}
theorem nOK.u (h : nOK F T w n) : 0 ≤ wN w n 0 ∧ wN w n 0 ≤ 1 := h.1
theorem nOK.h (h : nOK F T w n) : 1 ≤ wN w n 1 ∧ wN w n 1 ≤ 41 := h.2.1
theorem nOK.r (h : nOK F T w n) : 0 ≤ wN w n 2 ∧ wN w n 2 < 16 := h.2.2.1
theorem nOK.s (h : nOK F T w n) : 0 ≤ wN w n 3 ∧ wN w n 3 ≤ 2 := h.2.2.2.1
theorem nOK.l (h : nOK F T w n) : -1 ≤ wN w n 4 ∧ wN w n 4 ≤ wN w n 2 := h.2.2.2.2.1
theorem nOK.v (h : nOK F T w n) : -1 ≤ wN w n 5 ∧ wN w n 5 ≤ wN w n 2 := h.2.2.2.2.2.1
theorem nOK.b5 (h : nOK F T w n) : 0 ≤ wN w n 6 ∧ wN w n 6 ≤ 1 := h.2.2.2.2.2.2.1
theorem nOK.b7 (h : nOK F T w n) : 0 ≤ wN w n 7 ∧ wN w n 7 ≤ 1 := h.2.2.2.2.2.2.2.1
theorem nOK.b8 (h : nOK F T w n) : 0 ≤ wN w n 8 ∧ wN w n 8 ≤ 1 := h.2.2.2.2.2.2.2.2.1
theorem nOK.c (h : nOK F T w n) : 0 ≤ wN w n 12 ∧ wN w n 12 ≤ 1000 := h.2.2.2.2.2.2.2.2.2.1
theorem nOK.nt (h : nOK F T w n) : 0 ≤ wN w n 15 ∧ wN w n 15 ≤ 5 * wN w n 2 + 2 + wN w n 3 + (if wN w n 5 = wN w n 2 then 1 else 0) := h.2.2.2.2.2.2.2.2.2.2.1
theorem nOK.sa (h : nOK F T w n) : -1 ≤ wN w n 16 ∧ wN w n 16 ≤ 300 := h.2.2.2.2.2.2.2.2.2.2.2.1
theorem nOK.lg (h : nOK F T w n) : 0 ≤ wN w n 17 ∧ wN w n 17 ≤ 3 * wN w n 2 + 1 + wN w n 3 := h.2.2.2.2.2.2.2.2.2.2.2.2.1
theorem nOK.lv (h : nOK F T w n) : (wN w n 4 = wN w n 2 → wN w n 5 = wN w n 2) ∧ (wN w n 5 = wN w n 2 → wN w n 3 = 2 ∨ wN w n 4 = wN w n 2) := h.2.2.2.2.2.2.2.2.2.2.2.2.2.1
theorem nOK.p (h : nOK F T w n) : ∀ q, q < (wP w n).length → bg (pg (wP w n) q) 0 < 16 ∧ bg (pg (wP w n) q) 1 < 16 := h.2.2.2.2.2.2.2.2.2.2.2.2.2.2.1
theorem nOK.wfn (h : nOK F T w n) : wfN T w n := h.2.2.2.2.2.2.2.2.2.2.2.2.2.2.2.1
theorem nOK.pv (h : nOK F T w n) : ∀ q m, q < 32 → wY w n 4 q = some m → -1 ≤ prV m ∧ prV m < 16 := h.2.2.2.2.2.2.2.2.2.2.2.2.2.2.2.2.1
theorem nOK.o (h : nOK F T w n) : ∀ (j : Nat) y, (j : Int) < wN w n 17 → wY w n 8 j = some y → bg y 0 = 1 → (bg y 4 : Int) ≤ wN w n 2 := h.2.2.2.2.2.2.2.2.2.2.2.2.2.2.2.2.2.1
theorem nOK.sn (h : nOK F T w n) : ∀ s m, s < T → snF w n T F s → wY w n 3 s = some m → 2 ≤ tw m 1 ∧ tw m 1 ≤ 41 ∧ bkOK (snB m) := h.2.2.2.2.2.2.2.2.2.2.2.2.2.2.2.2.2.2
theorem nOK.h0 (h : nOK F T w n) : 0 ≤ wN w n 1 ∧ wN w n 1 ≤ 41 := ⟨by have := h.h; omega, h.h.2⟩
theorem nOK.n99 (h : nOK F T w n) : 0 ≤ wN w n 15 ∧ wN w n 15 ≤ 80 := by
  have a := h.nt
  have b := h.r
  have c := h.s
  split at a <;> omega
theorem nOK.l64 (h : nOK F T w n) : ∃ i : Nat, wN w n 17 = i ∧ i ≤ 48 := by
  have a := h.lg
  have b := h.r
  have c := h.s
  exact ⟨(wN w n 17).toNat, by omega, by omega⟩
theorem nOK.l16 (h : nOK F T w n) : -1 ≤ wN w n 4 ∧ wN w n 4 < 16 := by have := h.l; have := h.r; omega
theorem nOK.v16 (h : nOK F T w n) : -1 ≤ wN w n 5 ∧ wN w n 5 < 16 := by have := h.v; have := h.r; omega
end
/-- the rules, the last ones first -/
noncomputable def aR4 (w : Wd) (n T F : Nat) : Bool × Wd := cif (wN w n 3 = 1 ∧ wN w n 7 = 0 ∧ 2 * F + 1 ≤ cRd w n 0 (wN w n 2).toNat 0 [] T) (true, sN (sN w n 7 1) n 10 ((wT w + 4 + (wN w n 2).toNat : Nat) : Int)) (aR8 w n T F)
noncomputable def aR3 (w : Wd) (n T F : Nat) : Bool × Wd := cif (wN w n 3 = 1 ∧ 2 * F + 1 ≤ cRd w n 0 (wN w n 2).toNat 1 [] T) (aVote w n T 3 2 none) (aR4 w n T F)
def hdR (w : Wd) (n : Nat) : Option (List Nat) := wY w n 4 (16 * ((wN w n 1).toNat % 2) + (wN w n 2).toNat)
noncomputable def aR2 (w : Wd) (n T F : Nat) : Bool × Wd := if wN w n 3 = 0 then (match hdR w n with
  | none => aR8 w n T F
  | some m => cif (maV w n T F m) (aPre w n T m) (aR8 w n T F)) else (match hdR w n with
  | none => aR3 w n T F
  | some m => cif (wN w n 6 = 0 ∧ 2 * F + 1 ≤ cRd w n 0 (wN w n 2).toNat 2 (idB (m.drop 6)) T ∧ aVal w n (some (m.drop 6))) (aR5 w n T (m.drop 6)) (aR3 w n T F))
def upB (w : Wd) (n : Nat) : Bool × Wd := (decide (wN w n 0 = 1), w)
noncomputable def aR1 (w : Wd) (n T F : Nat) : Bool × Wd := match hst (fun r => (wN w n 2).toNat < r ∧ F < ahC w n T r T) 16 with
  | some r => upB (aBegin w n T r) n
  | none => aR2 w n T F
noncomputable def aR0 (w : Wd) (n T F : Nat) : Bool × Wd := match lst (deS w n T F) T with
  | some s => upB (aDecide w n T (((wY w n 6 s).getD []).drop 1)) n
  | none => match lst (deH w n T F) 16 with
    | some r => upB (aDecide w n T (((wY w n 4 (16 * ((wN w n 1).toNat % 2) + r)).getD []).drop 6)) n
    | none => aR1 w n T F
noncomputable def aRule (w : Wd) (n T F : Nat) : Bool × Wd := match lst (snF w n T F) T with
  | some s => upB (aTake w n T ((wY w n 3 s).getD [])) n
  | none => aR0 w n T F
def rlP (F H T : Nat) (x : Bool × Wd) (z : Int32 × rS) : Prop := rRp F H T z.2 x.2 ∧ z.1 = nI (if x.1 then 1 else 0)
section
variable {N n F H T : Nat} {S : rS} {w : Wd}
theorem rule_289 (hN : 2000 ≤ N) (h : rRp F H T S w) (hn : n < H) (k : nOK F T w n) : wp (O_rule_289 N (nI n) S) (F_rule_289 N (nI n) S) (rlP F H T (aR8 w n T F)) := by
  unfold O_rule_289 F_rule_289
  refine wp_call (rule8_ok (by omega) h hn k.h0 k.r k.b8 k.wfn) (fun q => ?_)
  unfold O_rule_294 F_rule_294
  rw [q.2]
  exact wp_fin (by split <;> rfl) ⟨q.1, rfl⟩
theorem rule_130 (hN : 2000 ≤ N) (h : rRp F H T S w) (hn : n < H) (k : nOK F T w n) : wp (O_rule_130 N (nI n) S) (F_rule_130 N (nI n) S) (rlP F H T (aR8 w n T F)) := by
  unfold O_rule_130 F_rule_130
  refine wp_call (rule8_ok (by omega) h hn k.h0 k.r k.b8 k.wfn) (fun q => ?_)
  unfold O_rule_135 F_rule_135
  rw [q.2]
  exact wp_fin (by split <;> rfl) ⟨q.1, rfl⟩
theorem rule_234 (hN : 2000 ≤ N) (h : rRp F H T S w) (hn : n < H) (k : nOK F T w n) : wp (O_rule_234 N (nI n) S) (F_rule_234 N (nI n) S) (rlP F H T (aR4 w n T F)) := by
  have cb := h.1.1.b
  have cF : F ≤ 4 := h.1.1.2.1
  have ks := k.s
  have k7 := k.b7
  have kr := k.r
  have e46 : S.2.1 46 n = nI (wN w n 3).toNat := h.hN hn (k := 3) (by decide) (by decide) ks.1
  have e50 : S.2.1 50 n = nI (wN w n 7).toNat := h.hN hn (k := 7) (by decide) (by decide) k7.1
  have e45 : S.2.1 45 n = nI (wN w n 2).toNat := h.hN hn (k := 2) (by decide) (by decide) kr.1
  obtain ⟨k1, k2⟩ := count_ok (N := N) (c := 0) (r := (wN w n 2).toNat) (s := 0) (p := 0) (d := []) (x5 := -1) (by omega) h hn (by omega) (by omega) (by omega) k.h0 k.wfn (fun z => absurd z (by decide))
  have kl := cRd_le (w := w) (n := n) (T := T) 0 (wN w n 2).toNat 0 []
  obtain ⟨u1, u2⟩ := quorum_ok (N := N) h
  unfold O_rule_234 F_rule_234
  have no : ¬ (wN w n 3 = 1 ∧ wN w n 7 = 0 ∧ 2 * F + 1 ≤ cRd w n 0 (wN w n 2).toNat 0 [] T) → wp (O_rule_289 N (nI n) S) (F_rule_289 N (nI n) S) (rlP F H T (aR4 w n T F)) := fun g => by
    unfold aR4
    rw [cif_neg g]
    exact rule_289 hN h hn k
  rw [n_clamp (by omega), e46, e50, e45, k2, u2]
  refine wp_and ((n_in (by omega)).2 (by omega)) (wp_ite (fun c => ?_) (fun c => ?_)) <;> rw [n_eq' (by omega) (by omega)] at c
  rotate_left
  · exact no (fun g => by omega)
  refine wp_and ((n_in (by omega)).2 (by omega)) (wp_ite (fun c1 => ?_) (fun c1 => ?_)) <;> rw [n_eq0 (by omega)] at c1
  rotate_left
  · exact no (fun g => by omega)
  refine wp_and ((n_in (by omega)).2 (by omega)) (wp_and k1 (wp_and u1 (wp_ite (fun c2 => ?_) (fun c2 => ?_)))) <;> rw [n_lt' (by omega) (by omega)] at c2
  · exact no (fun g => by omega)
  have R : rRp F H T (rsA S 50 n (nI 1)) (sN w n 7 1) := h.setN (n := n) (k := 7) (v := 1) (by decide) (by decide) (by decide)
  refine wp_and ((n_in (by omega)).2 (by omega)) (wp_call (setTimer_ok (k := 1) R hn (by omega) (by rw [N_o _ _ _ _ (by omega)]; exact kr)) (fun q => ?_))
  unfold O_rule_287 F_rule_287 aR4
  rw [cif_pos ⟨by omega, by omega, by omega⟩]
  rw [N_o _ _ _ _ (by omega)] at q
  exact wp_fin trivial ⟨q, rfl⟩
theorem rule_194 (hN : 2000 ≤ N) (h : rRp F H T S w) (hn : n < H) (k : nOK F T w n) : wp (O_rule_194 N (nI n) S) (F_rule_194 N (nI n) S) (rlP F H T (aR3 w n T F)) := by
  have cb := h.1.1.b
  have cF : F ≤ 4 := h.1.1.2.1
  have ks := k.s
  have kr := k.r
  have kn := k.n99
  obtain ⟨i, hi, hi2⟩ := k.l64
  have e46 : S.2.1 46 n = nI (wN w n 3).toNat := h.hN hn (k := 3) (by decide) (by decide) ks.1
  have e45 : S.2.1 45 n = nI (wN w n 2).toNat := h.hN hn (k := 2) (by decide) (by decide) kr.1
  obtain ⟨k1, k2⟩ := count_ok (N := N) (c := 0) (r := (wN w n 2).toNat) (s := 1) (p := 0) (d := []) (x5 := -1) (by omega) h hn (by omega) (by omega) (by omega) k.h0 k.wfn (fun z => absurd z (by decide))
  have kl := cRd_le (w := w) (n := n) (T := T) 0 (wN w n 2).toNat 1 []
  obtain ⟨u1, u2⟩ := quorum_ok (N := N) h
  unfold O_rule_194 F_rule_194
  have no : ¬ (wN w n 3 = 1 ∧ 2 * F + 1 ≤ cRd w n 0 (wN w n 2).toNat 1 [] T) → wp (O_rule_234 N (nI n) S) (F_rule_234 N (nI n) S) (rlP F H T (aR3 w n T F)) := fun g => by
    unfold aR3
    rw [cif_neg g]
    exact rule_234 hN h hn k
  rw [n_clamp (by omega), e46, e45, k2, u2]
  refine wp_and ((n_in (by omega)).2 (by omega)) (wp_ite (fun c => ?_) (fun c => ?_)) <;> rw [n_eq' (by omega) (by omega)] at c
  rotate_left
  · exact no (fun g => by omega)
  refine wp_and ((n_in (by omega)).2 (by omega)) (wp_and k1 (wp_and u1 (wp_ite (fun c2 => ?_) (fun c2 => ?_)))) <;> rw [n_lt' (by omega) (by omega)] at c2
  · exact no (fun g => by omega)
  refine wp_call (vote_ok (k := 3) (s := 2) (i := i) (p := 0) (o := none) (by omega) h hn (by omega) (by omega) (Or.inl ⟨rfl, rfl⟩) k.h0 kr k.c (by omega) hi (by omega)) (fun q => ?_)
  unfold O_rule_233 F_rule_233 aR3
  rw [cif_pos ⟨by omega, by omega⟩, q.2.2]
  exact wp_fin (by split <;> rfl) ⟨q.2.1, rfl⟩
theorem up_fin {w' : Wd} (h : rRp F H T S w') (hn : n < H) (u : 0 ≤ wN w' n 0 ∧ wN w' n 0 ≤ 1) : wp ((vp_in (nI n) 13) ∧ narrow .boolean (.int (S.2.1 43 (nI n).toNatClampNeg)) = .int (S.2.1 43 (nI n).toNatClampNeg)) ((S.2.1 43 (nI n).toNatClampNeg), S) (rlP F H T (upB w' n)) := by
  have cb := h.1.1.b
  have e43 : S.2.1 43 n = nI (wN w' n 0).toNat := h.hN hn (k := 0) (by decide) (by decide) u.1
  rw [n_clamp (by omega), e43]
  rcases (show wN w' n 0 = 0 ∨ wN w' n 0 = 1 by omega) with e | e
  · refine wp_fin ⟨((n_in (by omega)).2 (by omega)), by rw [e]; rfl⟩ ⟨h, ?_⟩
    unfold upB
    rw [e]
    rfl
  · refine wp_fin ⟨((n_in (by omega)).2 (by omega)), by rw [e]; rfl⟩ ⟨h, ?_⟩
    unfold upB
    rw [e]
    rfl
theorem rule_28 {s0 : Int32} (hN : 2000 ≤ N) (h : rRp F H T S w) (hn : n < H) (k : nOK F T w n) (hs : s0 = -1) : wp (O_rule_28 N (nI n) s0 S) (F_rule_28 N (nI n) s0 S) (rlP F H T (aR1 w n T F)) := by
  have cb := h.1.1.b
  have cF : F ≤ 4 := h.1.1.2.1
  have ks := k.s
  have kr := k.r
  have k6 := k.b5
  have kn := k.n99
  have kh := k.h0
  obtain ⟨i, hi, hi2⟩ := k.l64
  have e44 : S.2.1 44 n = nI (wN w n 1).toNat := h.hN hn (k := 1) (by decide) (by decide) kh.1
  have e46 : S.2.1 46 n = nI (wN w n 3).toNat := h.hN hn (k := 3) (by decide) (by decide) ks.1
  have e45 : S.2.1 45 n = nI (wN w n 2).toNat := h.hN hn (k := 2) (by decide) (by decide) kr.1
  have e49 : S.2.1 49 n = nI (wN w n 6).toNat := h.hN hn (k := 6) (by decide) (by decide) k6.1
  obtain ⟨q, hq⟩ : ∃ q, q = 16 * ((wN w n 1).toNat % 2) + (wN w n 2).toNat := ⟨_, rfl⟩
  have q32 : q < 32 := by have := Nat.mod_lt (wN w n 1).toNat (show 0 < 2 by decide); omega
  obtain ⟨a1, a2⟩ := ahead_ok (N := N) (by omega) h hn kh kr
  unfold O_rule_28 F_rule_28
  rw [hs]
  refine wp_pos (by decide) (wp_and a1 ?_)
  rcases a2 with ⟨r, b1, b2, b3, b4, b5⟩ | ⟨b1, b2⟩
  · rw [b5]
    refine wp_neg (n_lt0 (by omega)) (wp_call (begin_ok (i := i) (by omega) h hn b2 kh k.v16 k.c (by omega) hi (by omega) k.p (fun j y hj hy h0 => ?_)) (fun z => ?_))
    · have := k.o j y (by omega) hy h0
      omega
    unfold O_rule_65 F_rule_65 aR1
    rw [hst_is (i := r) ⟨b1, b3⟩ 16 b2 (fun j x1 x2 x3 => by have := b4 j x1 x2; omega)]
    exact up_fin z hn (wfr.begin.up k.u)
  rw [b2]
  have n1 : aR1 w n T F = aR2 w n T F := by
    unfold aR1
    rw [hst_no 16 (fun r hr z => by have := b1 r z.1 hr; omega)]
  have ew : hdR w n = wY w n 4 q := by unfold hdR; rw [← hq]
  rw [n1, n_clamp (by omega), e44, e45, e46, e49, heldAt_ok (by omega), n_add, show 0 + (32 * n + 16 * ((wN w n 1).toNat % 2) + (wN w n 2).toNat) = 32 * n + q by omega]
  have hh := h.hd n q hn q32
  obtain ⟨t1, t2⟩ := isThere_ok (N := N) (p := 32 * n + q) (by omega) hh.1
  rw [t2]
  unfold aR2
  rw [ew]
  refine wp_pos (by decide) (wp_and ((n_in (by omega)).2 (by omega)) (wp_and ((n_in (by omega)).2 (by omega)) (wp_and trivial (wp_and ((n_in (by omega)).2 (by omega)) (wp_ite (fun c => ?_) (fun c => ?_)))))) <;> rw [n_eq0 (by omega)] at c
  · rw [if_pos (show wN w n 3 = 0 by omega)]
    refine wp_and t1 ?_
    cases hy : wY w n 4 q with
    | none => exact wp_pos rfl (rule_130 hN h hn k)
    | some m =>
      have pv := k.pv q m q32 hy
      obtain ⟨m1, m2⟩ := mayVote_ok (N := N) (q := q) (m := m) (by omega) h hn q32 hy pv kh kr k.wfn
      refine wp_neg (show ¬ nI 1 = 0 by decide) (wp_and m1 ?_)
      rcases m2 with ⟨m2, m3⟩ | ⟨m2, m3⟩ <;> rw [m3]
      · refine wp_neg (by decide) (wp_call (prevote_ok (i := i) hN h hn q32 hy pv kh kr k.l16 k.c (by omega) hi (by omega) k.wfn) (fun z => ?_))
        unfold O_rule_127 F_rule_127 O_rule_135 F_rule_135
        rw [z.2]
        show wp _ _ (rlP F H T (cif (maV w n T F m) (aPre w n T m) (aR8 w n T F)))
        rw [cif_pos m2]
        exact wp_fin (by split <;> rfl) ⟨z.1, rfl⟩
      · refine wp_pos rfl ?_
        show wp _ _ (rlP F H T (cif (maV w n T F m) (aPre w n T m) (aR8 w n T F)))
        rw [cif_neg m2]
        exact rule_130 hN h hn k
  · rw [if_neg (show ¬ wN w n 3 = 0 by omega)]
    have no : ∀ S1, sfr S S1 → (∀ m, wY w n 4 q = some m → ¬ (wN w n 6 = 0 ∧ 2 * F + 1 ≤ cRd w n 0 (wN w n 2).toNat 2 (idB (m.drop 6)) T ∧ aVal w n (some (m.drop 6)))) → wp (O_rule_194 N (nI n) S1) (F_rule_194 N (nI n) S1) (rlP F H T (match wY w n 4 q with
  | none => aR3 w n T F
  | some m => cif (wN w n 6 = 0 ∧ 2 * F + 1 ≤ cRd w n 0 (wN w n 2).toNat 2 (idB (m.drop 6)) T ∧ aVal w n (some (m.drop 6))) (aR5 w n T (m.drop 6)) (aR3 w n T F))) := fun S1 f g => by
      cases hy : wY w n 4 q with
      | none => exact rule_194 hN (h.sf f) hn k
      | some m =>
        show wp _ _ (rlP F H T (cif (wN w n 6 = 0 ∧ 2 * F + 1 ≤ cRd w n 0 (wN w n 2).toNat 2 (idB (m.drop 6)) T ∧ aVal w n (some (m.drop 6))) (aR5 w n T (m.drop 6)) (aR3 w n T F)))
        rw [cif_neg (g m hy)]
        exact rule_194 hN (h.sf f) hn k
    refine wp_and ((n_in (by omega)).2 (by omega)) (wp_ite (fun c1 => ?_) (fun c1 => ?_)) <;> rw [n_eq0 (by omega)] at c1
    rotate_left
    · exact no S sfr.refl (fun m _ z => by omega)
    refine wp_and t1 ?_
    cases hy : wY w n 4 q with
    | none =>
      have := no S sfr.refl (fun m z => by rw [hy] at z; cases z)
      rw [hy] at this
      exact wp_pos rfl this
    | some m =>
      rw [hy] at hh
      have hb : oR S (32 * n + q) (some (m.drop 6)) := hh.1
      obtain ⟨k1, k2⟩ := count_ok (N := N) (c := 0) (r := (wN w n 2).toNat) (s := 2) (p := 32 * n + q) (d := idB (m.drop 6)) (x5 := nI (32 * n + q)) (by omega) h hn (by omega) (by omega) (by omega) kh k.wfn (fun _ => ⟨rfl, (by omega), hb.1.2.2, idB_len _, idB_B _⟩)
      have kl := cRd_le (w := w) (n := n) (T := T) 0 (wN w n 2).toNat 2 (idB (m.drop 6))
      obtain ⟨u1, u2⟩ := quorum_ok (N := N) h
      rw [k2, u2]
      refine wp_neg (show ¬ nI 1 = 0 by decide) (wp_and ((n_in (by omega)).2 (by omega)) (wp_and k1 (wp_and u1 (wp_ite (fun c2 => ?_) (fun c2 => ?_))))) <;> rw [n_lt' (by omega) (by omega)] at c2
      · have := no S sfr.refl (fun m' z y => by
          rw [hy] at z
          cases z
          omega)
        rw [hy] at this
        exact this
      refine wp_call (isValid_ok hN h hn (p := 32 * n + q) (by omega) hb (fun b e => by cases e; exact k.wfn.2.1 _ m q32 hy)) (fun y => ?_)
      obtain ⟨v1, v2⟩ := y
      generalize f_isValid N S (nI n) (nI (32 * n + q)) = y at v1 v2 ⊢
      unfold O_rule_183 F_rule_183
      rcases v2 with ⟨v2, v3⟩ | ⟨v2, v3⟩ <;> rw [v3]
      · have hb2 := hb.sf v1 (by omega)
        refine wp_neg (by decide) (wp_call (rule5_ok (i := i) (c := m.drop 6) (by omega) (h.sf v1) hn q32 hb2.1 hb2.2 kh kr ks k.l16 k.v16 k.c (by omega) hi (by omega)) (fun z => ?_))
        unfold O_rule_193 F_rule_193
        rw [z.2]
        show wp _ _ (rlP F H T (cif (wN w n 6 = 0 ∧ 2 * F + 1 ≤ cRd w n 0 (wN w n 2).toNat 2 (idB (m.drop 6)) T ∧ aVal w n (some (m.drop 6))) (aR5 w n T (m.drop 6)) (aR3 w n T F)))
        rw [cif_pos ⟨by omega, by omega, v2⟩]
        exact wp_fin (by split <;> rfl) ⟨z.1, rfl⟩
      · have := no y.2 v1 (fun m' z x => by
          rw [hy] at z
          cases z
          exact v2 x.2.2)
        rw [hy] at this
        exact wp_pos rfl this
theorem rule_ok (hN : 2000 ≤ N) (h : rRp F H T S w) (hn : n < H) (k : nOK F T w n) (h40 : wN w n 1 ≤ 40) : wp (o_rule N S (nI n)) (f_rule N S (nI n)) (rlP F H T (aRule w n T F)) := by
  have cb := h.1.1.b
  have kh := k.h
  have dec : ∀ (S1 : rS) (p : Nat) (c : List Nat), rRp F H T S1 w → p < 585 → oR S1 p (some c) → blkWf T c → wp (O_rule_28 N (nI n) (nI p) S1) (F_rule_28 N (nI n) (nI p) S1) (rlP F H T (upB (aDecide w n T c) n)) := by
    intro S1 p c R hp ho hw
    unfold O_rule_28 F_rule_28
    refine wp_neg (n_lt0 (by omega)) (wp_call (decide_ok (p := p) (c := c) (by omega) R hn hp ho.1 ho.2 hw ⟨kh.1, h40⟩ k.c k.p) (fun z => ?_))
    unfold O_rule_39 F_rule_39
    exact up_fin z hn (wfr.dec.up k.u)
  obtain ⟨s1, s2⟩ := snapshot_ok (N := N) (by omega) h hn k.h0
  show wp (O_rule_0 N (nI n) S) (F_rule_0 N (nI n) S) _
  unfold O_rule_0 F_rule_0 aRule
  refine wp_and s1 ?_
  rcases s2 with ⟨s, b1, b2, b3, b4⟩ | ⟨b1, b2⟩
  · rw [b4, lst_is b2 b3 T b1]
    obtain ⟨m, m1, m2, m3⟩ := b2
    obtain ⟨d1, d2, d3⟩ := k.sn s m b1 ⟨m, m1, m2, m3⟩ m1
    refine wp_neg (n_lt0 (by omega)) (wp_call (take_ok (s := s) (m := m) (by omega) h hn (by omega) m1 d1 d2 d3 k.h0 k.c k.sa k.p) (fun z => ?_))
    unfold O_rule_16 F_rule_16
    show wp _ _ (rlP F H T (upB (aTake w n T ((wY w n 3 s).getD [])) n))
    rw [m1]
    exact up_fin z hn (wfr.take.up k.u)
  rw [b2, lst_no T b1]
  refine wp_pos (by decide) ?_
  show wp _ _ (rlP F H T (aR0 w n T F))
  refine wp_call (decision_ok hN h hn k.h0 k.wfn) (fun y => ?_)
  obtain ⟨v1, v2⟩ := y
  generalize f_decision N S (nI n) = y at v1 v2 ⊢
  have R := h.sf v1
  unfold aR0
  rcases v2 with ⟨s, e1, e2, e3, e4⟩ | ⟨e1, ⟨r, e2, e3, e4, e5⟩ | ⟨e2, e3⟩⟩
  · rw [e4, lst_is e2 e3 T e1]
    obtain ⟨m, m1, m2, m3⟩ := e2
    show wp _ _ (rlP F H T (upB (aDecide w n T (((wY w n 6 s).getD []).drop 1)) n))
    rw [m1]
    have hd := R.d n s hn (by omega)
    rw [m1] at hd
    exact dec y.2 (416 + 13 * n + s) (m.drop 1) R (by omega) hd (k.wfn.1 s m (by omega) m1)
  · rw [e5, lst_no T e1, lst_is e3 e4 16 e2]
    obtain ⟨m, m1, m2, m3⟩ := e3
    show wp _ _ (rlP F H T (upB (aDecide w n T (((wY w n 4 (16 * ((wN w n 1).toNat % 2) + r)).getD []).drop 6)) n))
    rw [m1]
    have q32 : 16 * ((wN w n 1).toNat % 2) + r < 32 := by have := Nat.mod_lt (wN w n 1).toNat (show 0 < 2 by decide); omega
    have hd := R.hd n _ hn q32
    rw [m1] at hd
    exact dec y.2 _ (m.drop 6) R (by omega) hd.1 (k.wfn.2.1 _ m q32 m1)
  · rw [lst_no T e1, lst_no 16 e2]
    exact rule_28 hN R hn k e3
end
end

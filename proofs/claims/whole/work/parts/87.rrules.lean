section
/-! THE REFERENCE'S RULES: may a node vote, what it votes, when it waits -/
section
variable {N n F H T : Nat} {S : rS} {w : Wd}
theorem rRp.hN (h : rRp F H T S w) (hn : n < H) {k : Nat} (hk : k < 18) (hk2 : k < 9 ∨ 11 < k) (h0 : 0 ≤ wN w n k) : S.2.1 (rna k) n = nI (wN w n k).toNat := by
  have := h.num hn k hk hk2
  rw [← Int.toNat_of_nonneg h0, iI_n] at this
  exact this
/-- votes of a kind and round that a node counts at its height -/
noncomputable def cRd (w : Wd) (n c r s : Nat) (d : List Nat) (T : Nat) : Nat := cW w n c ((wN w n 1).toNat % 2) r s d T
theorem cRd_le (c r s : Nat) (d : List Nat) : cRd w n c r s d T ≤ T := @cV_le w n c _ r (srt s d) (fun _ => Classical.propDecidable _) T
theorem count_ok {c r s p : Nat} {d : List Nat} {x5 : Int32} (hN : 100 ≤ N) (h : rRp F H T S w) (hn : n < H) (hc : c ≤ 1) (hr : r < 16) (hs : s ≤ 2) (h1 : 0 ≤ wN w n 1 ∧ wN w n 1 ≤ 41) (hw : wfN T w n) (hd : s = 2 → x5 = nI p ∧ p < 1354 ∧ dB S p d ∧ d.length = 32 ∧ isB d) : o_count0 N S (nI c) (nI n) (nI r) (nI s) x5 ∧ f_count0 N S (nI c) (nI n) (nI r) (nI s) x5 = nI (cRd w n c r s d T) := @count0_ok N n F H T p S w c r s d x5 (fun _ => Classical.propDecidable _) hN h hn hc hr hs h1 hw.2.2 hd
def maV (w : Wd) (n T F : Nat) (m : List Nat) : Prop := prV m = -1 ∨ (prV m < wN w n 2 ∧ 2 * F + 1 ≤ cRd w n 0 (prV m).toNat 2 (idB (m.drop 6)) T)
theorem mayVote_ok {q : Nat} {m : List Nat} (hN : 1000 ≤ N) (h : rRp F H T S w) (hn : n < H) (hq : q < 32) (hm : wY w n 4 q = some m) (hv : -1 ≤ prV m ∧ prV m < 16) (h1 : 0 ≤ wN w n 1 ∧ wN w n 1 ≤ 41) (h2 : 0 ≤ wN w n 2 ∧ wN w n 2 < 16) (hw : wfN T w n) : wp (o_mayVote N S (nI n) (nI (32 * n + q))) (f_mayVote N S (nI n) (nI (32 * n + q))) (fun v => (maV w n T F m ∧ v = nI 1) ∨ (¬ maV w n T F m ∧ v = nI 0)) := by
  have cb := h.1.1.b
  have cF : F ≤ 4 := h.1.1.2.1
  have hh := h.hd n q hn hq
  rw [hm] at hh
  have hb : oR S (32 * n + q) (some (m.drop 6)) := hh.1
  have e59 := hh.2 m rfl
  have e45 : S.2.1 45 n = iI (wN w n 2) := h.num hn 2 (by decide) (by decide)
  show wp (O_mayVote_0 N (nI n) (nI (32 * n + q)) S) (F_mayVote_0 N (nI n) (nI (32 * n + q)) S) _
  unfold O_mayVote_0 F_mayVote_0
  rw [n_sub (by omega), Nat.sub_zero, n_clamp (by omega), n_clamp (by omega), e59, e45, show (-1 : Int32) = iI (-1) from rfl]
  have yes : maV w n T F m → wp (O_mayVote_40 N S) (F_mayVote_40 N S) (fun v => (maV w n T F m ∧ v = nI 1) ∨ (¬ maV w n T F m ∧ v = nI 0)) := fun g => by
    unfold O_mayVote_40 F_mayVote_40 O_mayVote_45 F_mayVote_45
    exact wp_fin rfl (Or.inl ⟨g, rfl⟩)
  have no : ¬ maV w n T F m → wp (O_mayVote_44 N S) (F_mayVote_44 N S) (fun v => (maV w n T F m ∧ v = nI 1) ∨ (¬ maV w n T F m ∧ v = nI 0)) := fun g => by
    unfold O_mayVote_44 F_mayVote_44 O_mayVote_45 F_mayVote_45
    exact wp_fin rfl (Or.inr ⟨g, rfl⟩)
  refine wp_and ((n_in (by omega)).2 (by omega)) (wp_ite (fun c => ?_) (fun c => ?_)) <;> rw [iI_eq (by omega) (by omega) (by omega) (by omega)] at c
  · exact yes (Or.inl c)
  refine wp_and ((n_in (by omega)).2 (by omega)) (wp_ite (fun c2 => ?_) (fun c2 => ?_)) <;> rw [iI_le (by omega) (by omega) (by omega) (by omega)] at c2
  · exact no (fun g => by rcases g with g | g <;> omega)
  have ev : iI (prV m) = nI (prV m).toNat := by
    rw [← iI_n]
    congr 1
    omega
  obtain ⟨k1, k2⟩ := count_ok (N := N) (c := 0) (r := (prV m).toNat) (s := 2) (p := 32 * n + q) (d := idB (m.drop 6)) (x5 := nI (32 * n + q)) (by omega) h hn (by omega) (by omega) (by omega) h1 hw (fun _ => ⟨rfl, (by omega), hb.1.2.2, idB_len _, idB_B _⟩)
  have kl := cRd_le (w := w) (n := n) (T := T) 0 (prV m).toNat 2 (idB (m.drop 6))
  obtain ⟨u1, u2⟩ := quorum_ok (N := N) h
  rw [ev, k2, u2]
  refine wp_and k1 (wp_and u1 (wp_ite (fun c3 => ?_) (fun c3 => ?_))) <;> rw [n_lt' (by omega) (by omega)] at c3
  · exact no (fun g => by rcases g with g | g <;> omega)
  · exact yes (Or.inr ⟨by omega, by omega⟩)
theorem setTimer_ok {k : Nat} (h : rRp F H T S w) (hn : n < H) (hk : k < 3) (h2 : 0 ≤ wN w n 2 ∧ wN w n 2 < 16) : wp (o_setTimer N S (nI n) (nI k)) (f_setTimer N S (nI n) (nI k)) (fun S' => rRp F H T S' (sN w n (9 + k) ((wT w + 4 + (wN w n 2).toNat : Nat) : Int))) := by
  have cb := h.1.1.b
  have e45 : S.2.1 45 n = nI (wN w n 2).toNat := h.hN hn (k := 2) (by decide) (by decide) h2.1
  have x3 : S.1 3 = nI (wT w) := h.co.2.2.2.2.2.1
  show wp (O_setTimer_0 N (nI n) (nI k) S) (F_setTimer_0 N (nI n) (nI k) S) _
  unfold O_setTimer_0 F_setTimer_0
  simp only [n_mul, n_add]
  rw [n_clamp (by omega), n_clamp (by omega), x3, e45]
  simp only [n_add]
  refine wp_fin ⟨((n_in (by omega)).2 (by omega)), ((n_in (by omega)).2 (by omega)), trivial⟩ ?_
  have := h.setN (n := n) (k := 9 + k) (v := ((wT w + 4 + (wN w n 2).toNat : Nat) : Int)) (by omega) (by omega) (by omega)
  rw [iI_n] at this
  rcases (show k = 0 ∨ k = 1 ∨ k = 2 by omega) with rfl | rfl | rfl <;> exact this
/-- a node waits for precommits -/
noncomputable def aR8 (w : Wd) (n T F : Nat) : Bool × Wd := @ite _ (wN w n 8 = 0 ∧ 2 * F + 1 ≤ cRd w n 1 (wN w n 2).toNat 0 [] T) (Classical.propDecidable _) (true, sN (sN w n 8 1) n 11 ((wT w + 4 + (wN w n 2).toNat : Nat) : Int)) (false, w)
theorem rule8_ok (hN : 1000 ≤ N) (h : rRp F H T S w) (hn : n < H) (h1 : 0 ≤ wN w n 1 ∧ wN w n 1 ≤ 41) (h2 : 0 ≤ wN w n 2 ∧ wN w n 2 < 16) (h8 : 0 ≤ wN w n 8 ∧ wN w n 8 ≤ 1) (hw : wfN T w n) : wp (o_rule8 N S (nI n)) (f_rule8 N S (nI n)) (fun z => rRp F H T z.2 (aR8 w n T F).2 ∧ z.1 = nI (if (aR8 w n T F).1 then 1 else 0)) := by
  have cb := h.1.1.b
  have cF : F ≤ 4 := h.1.1.2.1
  have e51 : S.2.1 51 n = nI (wN w n 8).toNat := h.hN hn (k := 8) (by decide) (by decide) h8.1
  have e45 : S.2.1 45 n = nI (wN w n 2).toNat := h.hN hn (k := 2) (by decide) (by decide) h2.1
  obtain ⟨k1, k2⟩ := count_ok (N := N) (c := 1) (r := (wN w n 2).toNat) (s := 0) (p := 0) (d := []) (x5 := -1) (by omega) h hn (by omega) (by omega) (by omega) h1 hw (fun z => absurd z (by decide))
  have kl := cRd_le (w := w) (n := n) (T := T) 1 (wN w n 2).toNat 0 []
  obtain ⟨u1, u2⟩ := quorum_ok (N := N) h
  show wp (O_rule8_0 N (nI n) S) (F_rule8_0 N (nI n) S) _
  unfold O_rule8_0 F_rule8_0 aR8
  have no : ¬ (wN w n 8 = 0 ∧ 2 * F + 1 ≤ cRd w n 1 (wN w n 2).toNat 0 [] T) → wp (O_rule8_30 N S) (F_rule8_30 N S) (fun z => rRp F H T z.2 (@ite _ (wN w n 8 = 0 ∧ 2 * F + 1 ≤ cRd w n 1 (wN w n 2).toNat 0 [] T) (Classical.propDecidable _) (true, sN (sN w n 8 1) n 11 ((wT w + 4 + (wN w n 2).toNat : Nat) : Int)) (false, w)).2 ∧ z.1 = nI (if (@ite _ (wN w n 8 = 0 ∧ 2 * F + 1 ≤ cRd w n 1 (wN w n 2).toNat 0 [] T) (Classical.propDecidable _) (true, sN (sN w n 8 1) n 11 ((wT w + 4 + (wN w n 2).toNat : Nat) : Int)) (false, w)).1 then 1 else 0)) := fun g => by
    rw [if_neg g]
    exact wp_fin trivial ⟨h, rfl⟩
  rw [n_clamp (by omega), e51, e45, k2, u2]
  refine wp_and ((n_in (by omega)).2 (by omega)) (wp_ite (fun c => ?_) (fun c => ?_)) <;> rw [n_eq0 (by omega)] at c
  rotate_left
  · exact no (fun g => by omega)
  refine wp_and ((n_in (by omega)).2 (by omega)) (wp_and k1 (wp_and u1 (wp_ite (fun c2 => ?_) (fun c2 => ?_)))) <;> rw [n_le' (by omega) (by omega)] at c2
  rotate_left
  · exact no (fun g => by omega)
  have g : wN w n 8 = 0 ∧ 2 * F + 1 ≤ cRd w n 1 (wN w n 2).toNat 0 [] T := ⟨by omega, c2⟩
  rw [if_pos g]
  have R := h.setN (n := n) (k := 8) (v := 1) (by decide) (by decide) (by decide)
  have R : rRp F H T (rsA S 51 n (nI 1)) (sN w n 8 1) := R
  refine wp_and ((n_in (by omega)).2 (by omega)) (wp_call (setTimer_ok (k := 2) R hn (by omega) (by rw [N_o _ _ _ _ (by omega)]; exact h2)) (fun q => ?_))
  unfold O_rule8_45 F_rule8_45
  rw [N_o _ _ _ _ (by omega)] at q
  exact wp_fin trivial ⟨q, rfl⟩
/-- a node prevotes for what it holds -/
def pvY (w : Wd) (n : Nat) (m : List Nat) : Prop := ((prV m = -1 ∧ wY w n 0 0 = none) ∨ (prV m ≠ -1 ∧ wN w n 4 ≤ prV m) ∨ sameI (some (m.drop 6)) (wY w n 0 0)) ∧ aVal w n (some (m.drop 6))
noncomputable def aPre (w : Wd) (n T : Nat) (m : List Nat) : Bool × Wd := @ite _ (pvY w n m) (Classical.propDecidable _) (aVote w n T 2 1 (some (idB (m.drop 6)))) (aVote w n T 2 1 none)
theorem prevote_ok {q i : Nat} {m : List Nat} (hN : 2000 ≤ N) (h : rRp F H T S w) (hn : n < H) (hq : q < 32) (hm : wY w n 4 q = some m) (hv : -1 ≤ prV m ∧ prV m < 16) (h1 : 0 ≤ wN w n 1 ∧ wN w n 1 ≤ 41) (h2 : 0 ≤ wN w n 2 ∧ wN w n 2 < 16) (h4 : -1 ≤ wN w n 4 ∧ wN w n 4 < 16) (hc : 0 ≤ wN w n 12 ∧ wN w n 12 ≤ 1000) (h15 : 0 ≤ wN w n 15 ∧ wN w n 15 ≤ 100) (hi : wN w n 17 = i) (hi64 : i < 64) (hw : wfN T w n) : wp (o_prevote N S (nI n) (nI (32 * n + q))) (f_prevote N S (nI n) (nI (32 * n + q))) (fun z => rRp F H T z.2 (aPre w n T m).2 ∧ z.1 = nI (if (aPre w n T m).1 then 1 else 0)) := by
  have cb := h.1.1.b
  have hh := h.hd n q hn hq
  rw [hm] at hh
  have hb : oR S (32 * n + q) (some (m.drop 6)) := hh.1
  have e59 := hh.2 m rfl
  have e47 : S.2.1 47 n = iI (wN w n 4) := h.num hn 4 (by decide) (by decide)
  have hl := (h.l n hn).1
  have nil : ∀ S1, sfr S S1 → ¬ pvY w n m → wp (O_prevote_82 N (nI n) (nI (32 * n + q)) S1) (F_prevote_82 N (nI n) (nI (32 * n + q)) S1) (fun z => rRp F H T z.2 (aPre w n T m).2 ∧ z.1 = nI (if (aPre w n T m).1 then 1 else 0)) := by
    intro S1 f g
    unfold O_prevote_82 F_prevote_82 O_prevote_83 F_prevote_83 aPre
    rw [if_neg g]
    refine wp_pos rfl ?_
    unfold O_prevote_98 F_prevote_98
    refine wp_call (vote_ok (k := 2) (s := 1) (i := i) (p := 0) (o := none) (by omega) (h.sf f) hn (by omega) (by omega) (Or.inl ⟨rfl, rfl⟩) h1 h2 hc h15 hi hi64) (fun q => ?_)
    unfold O_prevote_102 F_prevote_102
    rw [q.2.2]
    exact wp_fin (by split <;> rfl) ⟨q.2.1, rfl⟩
  have val : ∀ S1, sfr S S1 → ((prV m = -1 ∧ wY w n 0 0 = none) ∨ (prV m ≠ -1 ∧ wN w n 4 ≤ prV m) ∨ sameI (some (m.drop 6)) (wY w n 0 0)) → wp (O_prevote_69 N (nI n) (nI (32 * n + q)) S1) (F_prevote_69 N (nI n) (nI (32 * n + q)) S1) (fun z => rRp F H T z.2 (aPre w n T m).2 ∧ z.1 = nI (if (aPre w n T m).1 then 1 else 0)) := by
    intro S1 f g
    unfold O_prevote_69 F_prevote_69
    refine wp_call (isValid_ok hN (h.sf f) hn (p := 32 * n + q) (by omega) (hb.sf f (by omega)) (fun b e => by cases e; exact hw.2.1 _ m hq hm)) (fun y => ?_)
    obtain ⟨v1, v2⟩ := y
    generalize f_isValid N S1 (nI n) (nI (32 * n + q)) = y at v1 v2 ⊢
    unfold O_prevote_75 F_prevote_75
    rcases v2 with ⟨v2, v3⟩ | ⟨v2, v3⟩ <;> rw [v3]
    · refine wp_neg (by decide) ?_
      unfold O_prevote_83 F_prevote_83 aPre
      rw [if_pos (show pvY w n m from ⟨g, v2⟩)]
      refine wp_neg (by decide) ?_
      unfold O_prevote_98 F_prevote_98
      have hb2 := hb.sf (f.trans v1) (by omega)
      refine wp_call (vote_ok (k := 2) (s := 1) (i := i) (p := 32 * n + q) (o := some (idB (m.drop 6))) (by omega) (h.sf (f.trans v1)) hn (by omega) (by omega) (Or.inr ⟨rfl, (by omega), _, rfl, hb2.1.2.2, idB_len _, idB_B _⟩) h1 h2 hc h15 hi hi64) (fun q => ?_)
      unfold O_prevote_102 F_prevote_102
      rw [q.2.2]
      exact wp_fin (by split <;> rfl) ⟨q.2.1, rfl⟩
    · exact wp_pos rfl (nil y.2 (f.trans v1) (fun z => v2 z.2))
  have one : ((prV m = -1 ∧ wY w n 0 0 = none) ∨ (prV m ≠ -1 ∧ wN w n 4 ≤ prV m)) → wp (O_prevote_49 N (nI n) (nI (32 * n + q)) (nI 1) S) (F_prevote_49 N (nI n) (nI (32 * n + q)) (nI 1) S) (fun z => rRp F H T z.2 (aPre w n T m).2 ∧ z.1 = nI (if (aPre w n T m).1 then 1 else 0)) := by
    intro g
    unfold O_prevote_49 F_prevote_49
    exact wp_neg (by decide) (val S sfr.refl (by rcases g with g | g; exact Or.inl g; exact Or.inr (Or.inl g)))
  have zero : ¬ (prV m = -1 ∧ wY w n 0 0 = none) → ¬ (prV m ≠ -1 ∧ wN w n 4 ≤ prV m) → wp (O_prevote_49 N (nI n) (nI (32 * n + q)) (nI 0) S) (F_prevote_49 N (nI n) (nI (32 * n + q)) (nI 0) S) (fun z => rRp F H T z.2 (aPre w n T m).2 ∧ z.1 = nI (if (aPre w n T m).1 then 1 else 0)) := by
    intro g1 g2
    unfold O_prevote_49 F_prevote_49
    rw [n_add]
    obtain ⟨s1, s2⟩ := sameBlock_ok (N := N) (S := S) (p := 32 * n + q) (q := 1118 + n) (by omega) (by omega) hb hl (by omega)
    refine wp_pos rfl (wp_and s1 ?_)
    rcases s2 with ⟨s2, s3⟩ | ⟨s2, s3⟩ <;> rw [s3]
    · exact wp_neg (by decide) (val S sfr.refl (Or.inr (Or.inr s2)))
    · exact wp_pos rfl (nil S sfr.refl (fun z => by rcases z.1 with z | z | z; exact g1 z; exact g2 z; exact s2 z))
  show wp (O_prevote_0 N (nI n) (nI (32 * n + q)) S) (F_prevote_0 N (nI n) (nI (32 * n + q)) S) _
  unfold O_prevote_0 F_prevote_0
  obtain ⟨t1, t2⟩ := isThere_ok (N := N) (p := 1118 + n) (by omega) hl
  rw [n_sub (by omega), Nat.sub_zero, n_clamp (by omega), n_clamp (by omega), e59, e47, n_add, t2, show (-1 : Int32) = iI (-1) from rfl]
  refine wp_and ((n_in (by omega)).2 (by omega)) (wp_ite (fun c => ?_) (fun c => ?_)) <;> rw [iI_eq (by omega) (by omega) (by omega) (by omega)] at c
  · refine wp_and t1 ?_
    cases hy : wY w n 0 0 with
    | none => exact wp_pos rfl (one (Or.inl ⟨c, hy⟩))
    | some b => exact wp_neg (show ¬ nI 1 = 0 by decide) (zero (fun z => by rw [hy] at z; cases z.2) (fun z => z.1 c))
  · refine wp_and ((n_in (by omega)).2 (by omega)) (wp_ite (fun c2 => ?_) (fun c2 => ?_)) <;> rw [iI_lt (by omega) (by omega) (by omega) (by omega)] at c2
    · exact zero (fun z => c z.1) (fun z => by omega)
    · exact one (Or.inr ⟨c, by omega⟩)
end
end

section
/-! THE CLASS'S NODE PREVOTES for a block of an earlier round -/
section
variable {F N g H T n : Nat} {s s1 : cS} {ct : Nat → List Nat} {hd : List Nat} {w w' : Wd} {pe : Nat → Int} {G : Gh}
theorem CR.h4 (h : CR F g H T s ct hd w pe) (hn : n < H) : cI s 12 (nd g n) = iI (wN w n 4) := (h.node hn).1.2.2.2.2.2.1
theorem CR.h5 (h : CR F g H T s ct hd w pe) (hn : n < H) : cI s 13 (nd g n) = iI (wN w n 5) := (h.node hn).1.2.2.2.2.2.2.1
/-- what prevotesOld leaves -/
def poP (F g H T : Nat) (s : cS) (ct : Nat → List Nat) (hd : List Nat) (w : Wd) (pe : Nat → Int) (n : Nat) (z : Int32 × cS) : Prop := (∃ m, wN w n 3 = 0 ∧ hdR w n = some m ∧ prV m ≠ -1 ∧ maV w n T F m ∧ z.1 = nI 1 ∧ reC F g H T ct hd (aPre w n T m).2 pe z.2) ∨ ((wN w n 3 = 0 → ∀ m, hdR w n = some m → prV m ≠ -1 → ¬ maV w n T F m) ∧ z = (nI 0, s))
theorem prevOld_85 {a : Nat} {m : List Nat} {z1 : Int32} (hN : 100 ≤ N) (i1 : CR F g H T s1 ct hd w pe) (hn : n < H) (hl : hd.length ≤ 25) (u : uO T w n) (hp : pe n = -1) (h4 : -1 ≤ wN w n 4 ∧ wN w n 4 < 16) (h0 : wN w n 3 = 0) (hm : hdR w n = some m) (ha : maV w n T F m) (v1 : bg m 5 ≤ 15) (v2 : prV m = bg m 5) (ca : ct a = m) (ua : 1 ≤ us g H T s1 hd a) (a4 : cI s1 4 a = nI 1) (a8 : idM m = some (idB (m.drop 6))) (b9 : nmC s1 a (some (idB (m.drop 6)))) (i3 : (z1 = nI 1 ∧ aVal w n (some (m.drop 6))) ∨ (z1 = nI 0 ∧ ¬ aVal w n (some (m.drop 6)))) : wp (KO_X7_prevotesOld_85 N g H T (some (nd g n)) (some a) (nI (bg m 5)) z1 s1) (KF_X7_prevotesOld_85 N g H T (some (nd g n)) (some a) (nI (bg m 5)) z1 s1) (poP F g H T s ct hd w pe n) := by
  have fin : ∀ j, ((j = 1 ∧ pvY w n m) ∨ (j = 0 ∧ ¬ pvY w n m)) → wp (KO_X7_prevotesOld_119 N g H T (some (nd g n)) (some a) (nI j) s1) (KF_X7_prevotesOld_119 N g H T (some (nd g n)) (some a) (nI j) s1) (poP F g H T s ct hd w pe n) := fun j hj => wp_mono (prevOld_119 hN i1 hn hl u hp ca ua a4 a8 hj) (fun q => Or.inl ⟨m, h0, hm, by omega, ha, q.1, q.2⟩)
  unfold KO_X7_prevotesOld_85 KF_X7_prevotesOld_85 KO_X7_prevotesOld_118 KF_X7_prevotesOld_118 KO_X7_prevotesOld_114 KF_X7_prevotesOld_114
  rw [zsome, i1.h4 hn, ← iI_n (bg m 5)]
  rcases i3 with ⟨i3, i4⟩ | ⟨i3, i4⟩
  rotate_left
  · rw [i3]
    exact wp_pos (show nI 0 = 0 from rfl) (fin 0 (Or.inr ⟨rfl, fun q => i4 q.2⟩))
  rw [i3]
  refine wp_neg (show ¬ nI 1 = 0 by decide) (wp_and someN (wp_ite (fun c => ?_) (fun c => ?_))) <;> rw [iI_le (by omega) (by omega) (by omega) (by omega)] at c
  · exact fin 1 (Or.inl ⟨rfl, Or.inr (Or.inl ⟨by omega, by omega⟩), i4⟩)
  cases e : cR s1 14 (nd g n) with
  | none =>
    refine wp_pos rfl (fin 0 (Or.inr ⟨rfl, fun q => ?_⟩))
    rcases q.1 with d | d | d
    · omega
    · omega
    · rcases lock_at (k := 14) i1 hn (Or.inl rfl) with ⟨l1, l2⟩ | ⟨b1, b, l1, l2, l3, l4, l5⟩
      · obtain ⟨x, y, -, e2, -⟩ := d
        have l2 : wY w n 0 0 = none := l2
        rw [l2] at e2
        cases e2
      · rw [e] at l1
        cases l1
  | some b0 =>
    rw [zsome]
    refine wp_neg someN (wp_call (lockFor i1 hn b9 e) (fun q => ?_))
    rcases q with ⟨q1, q2⟩ | ⟨q1, q2⟩ <;> rw [q1]
    · exact wp_neg (show ¬ nI 1 = 0 by decide) (fin 1 (Or.inl ⟨rfl, Or.inr (Or.inr q2), i4⟩))
    · refine wp_pos (show nI 0 = 0 from rfl) (fin 0 (Or.inr ⟨rfl, fun z => ?_⟩))
      rcases z.1 with d | d | d
      · omega
      · omega
      · exact q2 d
theorem prevotesOld_C (hN : 100 ≤ N) (h : CR F g H T s ct hd w pe) (hn : n < H) (hl : hd.length ≤ 25) (k : GN F H T G w n) (gk : giK (wN w n)) (hu : wN w n 0 = 1) (hp : pe n = -1) (hf : cI s 5 (nd g n + 6) = nI 0) : wp (p_X7_prevotesOld N g H T s (some (nd g n))) (k_X7_prevotesOld N g H T s (some (nd g n))) (poP F g H T s ct hd w pe n) := by
  have cb := h.1.bb
  have cF : F ≤ 4 := h.1.2.1
  have o := k.ok h.1 gk
  have o1 := o.h
  have o2 := o.r
  have o3 := o.s
  have hv := k.vt cb.2.1
  have u := k.uo h.1 gk hn hu
  have r16 : (wN w n 2).toNat < 16 := by omega
  obtain ⟨p1, p2⟩ := proposal_c (N := N) (g := g) (H := H) (T := T) (n := n) (s := s) (h := (wN w n 1).toNat) r16
  show wp (KO_X7_prevotesOld_0 N g H T (some (nd g n)) s) (KF_X7_prevotesOld_0 N g H T (some (nd g n)) s) _
  unfold KO_X7_prevotesOld_0 KF_X7_prevotesOld_0
  rw [zsome, h.h1 hn (by omega), h.h2 hn o2.1, h.h3 hn o3.1, p2]
  have no : (wN w n 3 = 0 → ∀ m, hdR w n = some m → prV m ≠ -1 → ¬ maV w n T F m) → wp True (nI 0, s) (poP F g H T s ct hd w pe n) := fun q => wp_fin trivial (Or.inr ⟨q, rfl⟩)
  refine wp_and someN (wp_ite (fun c0 => ?_) (fun c0 => ?_)) <;> rw [n_eq0 (by omega)] at c0
  rotate_left
  · unfold KO_X7_prevotesOld_26 KF_X7_prevotesOld_26 KO_X7_prevotesOld_43 KF_X7_prevotesOld_43
    exact wp_pos rfl (no (fun q => by omega))
  refine wp_and p1 ?_
  unfold KO_X7_prevotesOld_26 KF_X7_prevotesOld_26 KO_X7_prevotesOld_43 KF_X7_prevotesOld_43
  rcases prp_at h hn hu k r16 with ⟨a1, a2⟩ | ⟨a, m, a1, a2, a3, a4, a5, a6, a7, a8, a9, a10, a11⟩
  · rw [a1]
    exact wp_pos rfl (no (fun _ m e => by
      have e : wY w n 4 (16 * ((wN w n 1).toNat % 2) + (wN w n 2).toNat) = some m := e
      rw [a2] at e
      cases e))
  have hm : hdR w n = some m := a2
  obtain ⟨t1, t2⟩ := at_ok (N := N) (g := g) (H := H) (T := T) (i := 5) a4 (by omega)
  have b5 := a11 5
  rw [a1, zsome, zsome, t2, h.h1 hn (by omega), h.h2 hn o2.1, h.hQ]
  refine wp_neg someN (wp_and t1 (wp_and someN ?_))
  have so : ∀ m', hdR w n = some m' → m' = m := fun m' e => by
    rw [hm] at e
    exact (Option.some.inj e).symm
  refine wp_ite (fun c => ?_) (fun c => ?_) <;> rw [n_lt' (by omega) (by omega)] at c
  rotate_left
  · refine no (fun _ m' e1 e2 e3 => ?_)
    rw [so m' e1] at e2 e3
    rcases prV_5 a10 with ⟨v1, v2⟩ | ⟨v1, v2⟩
    · exact e2 v2
    · rcases e3 with e3 | e3 <;> omega
  have v : bg m 5 ≤ 15 ∧ prV m = bg m 5 := by
    rcases prV_5 a10 with ⟨v1, v2⟩ | q
    · omega
    · exact q
  obtain ⟨c1, c2⟩ := vF2 (N := N) (r := bg m 5) (so := 2) (d := idB (m.drop 6)) (xo := some a) hN h hn hu hv (by omega) (Or.inr ⟨a, rfl, rfl, a9, idB_len _, idB_B _⟩)
  have kl := cRd_le (w := w) (n := n) (T := T) 0 (bg m 5) 2 (idB (m.drop 6))
  have ev : (prV m).toNat = bg m 5 := by omega
  rw [c2]
  refine wp_and t1 (wp_and c1 (wp_ite (fun d => ?_) (fun d => ?_))) <;> rw [n_le' (by omega) (by omega)] at d
  rotate_left
  · refine no (fun _ m' e1 e2 e3 => ?_)
    rw [so m' e1] at e2 e3
    rcases e3 with e3 | ⟨e3, e4⟩
    · exact e2 e3
    · rw [ev] at e4
      exact d e4
  have mv : maV w n T F m := Or.inr ⟨by omega, by rw [ev]; exact d⟩
  refine wp_call (approves_C hN h hn hu k hf r16 a2) (fun q => ?_)
  obtain ⟨i1, i2, i3⟩ := q
  generalize k_X7_approves N g H T s (some (nd g n)) (nI (wN w n 2).toNat) = z at i1 i2 i3 ⊢
  obtain ⟨z1, s1⟩ := z
  have i1 : CR F g H T s1 ct hd w pe := i1
  have i2 : cfr (apP g n) s s1 := i2
  have ePs : cP s1 = cP s := i2.2.2.2.2.2.1
  rcases prp_at i1 hn hu k r16 with ⟨b1, b2⟩ | ⟨a', m', b1, b2, b3, b4, b5', b6, b7, b8, b9, b10, b11⟩
  · rw [a2] at b2
    cases b2
  rw [ePs, a1] at b1
  have b1 := Option.some.inj b1
  rw [a2] at b2
  have b2 := Option.some.inj b2
  rw [← b1, ← b2] at b3
  rw [← b1] at b5' b6
  rw [← b1, ← b2] at b9
  exact prevOld_85 hN i1 hn hl u hp o.l16 (by omega) hm mv v.1 v.2 b3 b5' b6 a8 b9 i3
end
end

section
/-! THE CLASS'S RULES: decides, all of it -/
section
variable {F N g H T n : Nat} {s s1 s' : cS} {ct : Nat → List Nat} {hd : List Nat} {w w' W : Wd} {pe pe' : Nat → Int} {a : Nat} {G : Gh}
theorem dec_l116 (hN : 200 ≤ N) (h : CR F g H T s ct hd w pe) (hn : n < H) (k : GN F H T G w n) (hu : wN w n 0 = 1) (hf : cI s 5 (nd g n + 6) = nI 0) : wp (KOL_X7_decides_116 N g H T N (some (nd g n)) (nd g n + 14) (nI 0) s) (KL_X7_decides_116 N g H T N (some (nd g n)) (nd g n + 14) (nI 0) s) (fun Z => dcI F g H T s ct hd w pe n Z.2.2.2 ∧ ((∃ r m a, lst (deH w n T F) 16 = some r ∧ r < 16 ∧ wY w n 4 (16 * ((wN w n 1).toNat % 2) + r) = some m ∧ cP s (nd g n + 15) (16 * ((wN w n 1).toNat % 2) + r) = some a ∧ ct a = m ∧ bg m 0 = 1 ∧ Z.1 = 0 ∧ Z.2.1 = some (nd g n) ∧ Z.2.2.1 = some a) ∨ (lst (deH w n T F) 16 = none ∧ Z.1 = 1))) := by
  have cb := h.1.bb
  have cF : F ≤ 4 := h.1.2.1
  have hv := k.vt cb.2.1
  have hh := k.a.2.1
  refine wp_loop (K := 16) (fun j (S : cS) => dcI F g H T s ct hd w pe n S ∧ ∀ i, i < j → ¬ deH w n T F i) (fun r j S => KOL_X7_decides_116 N g H T r (some (nd g n)) (nd g n + 14) (nI j) S) (fun r j S => KL_X7_decides_116 N g H T r (some (nd g n)) (nd g n + 14) (nI j) S) (fun r j S hj hI ih => ?_) 0 N s (by omega) (by omega) ⟨⟨h, hf, rfl, m6.refl⟩, fun i hi => absurd hi (by omega)⟩
  obtain ⟨⟨cr, fr, eP0, e6⟩, no⟩ := hI
  obtain ⟨t, t1, t2, t3, t4⟩ := top_C (N := N) (h := (wN w n 1).toNat) cr hn hu
  unfold KOL_X7_decides_116 KL_X7_decides_116 KOB_X7_decides_116 KB_X7_decides_116
  rw [zsome, cr.h1 hn (by omega), t3, cr.hQ]
  refine wp_and someN (wp_and t2 (wp_ite (fun c => ?_) (fun c => ?_))) <;> rw [n_le' (by omega) (by omega)] at c
  · refine wp_fin trivial ⟨⟨cr, fr, eP0, e6⟩, Or.inr ⟨lst_no 16 (fun i hi q => ?_), rfl⟩⟩
    by_cases d : i < j
    · exact no i d q
    · obtain ⟨m, q1, _⟩ := q
      rw [(t4 i (by omega) hi).1] at q1
      cases q1
  have j16 : j < 16 := by omega
  obtain ⟨p1, p2⟩ := proposal_c (N := N) (g := g) (H := H) (T := T) (n := n) (s := S) (h := (wN w n 1).toNat) j16
  rw [p2]
  refine wp_and p1 ?_
  have nx : ∀ S' : cS, dcI F g H T s ct hd w pe n S' → ¬ deH w n T F j → wp (KO_X7_decides_180 N g H T (KOL_X7_decides_116 N g H T r) (some (nd g n)) (nd g n + 14) (nI j) S') (KF_X7_decides_180 N g H T (KL_X7_decides_116 N g H T r) (some (nd g n)) (nd g n + 14) (nI j) S') (fun Z => dcI F g H T s ct hd w pe n Z.2.2.2 ∧ ((∃ r m a, lst (deH w n T F) 16 = some r ∧ r < 16 ∧ wY w n 4 (16 * ((wN w n 1).toNat % 2) + r) = some m ∧ cP s (nd g n + 15) (16 * ((wN w n 1).toNat % 2) + r) = some a ∧ ct a = m ∧ bg m 0 = 1 ∧ Z.1 = 0 ∧ Z.2.1 = some (nd g n) ∧ Z.2.2.1 = some a) ∨ (lst (deH w n T F) 16 = none ∧ Z.1 = 1))) := fun S' hS' q => by
    unfold KO_X7_decides_180 KF_X7_decides_180
    rw [n_add]
    refine ih S' ⟨hS', fun i hi => ?_⟩ (by omega)
    by_cases d : i = j
    · rw [d]; exact q
    · exact no i (by omega)
  rcases prp_at cr hn hu k j16 with ⟨a1, a2⟩ | ⟨a, m, a1, a2, a3, a4, a5, a6, a7, a8, a9, a10, a11⟩
  · rw [a1]
    exact wp_pos rfl (nx S ⟨cr, fr, eP0, e6⟩ (fun ⟨m, q, _⟩ => by rw [a2] at q; cases q))
  have so : ∀ m', wY w n 4 (16 * ((wN w n 1).toNat % 2) + j) = some m' → m' = m := fun m' q => by
    rw [a2] at q
    exact (Option.some.inj q).symm
  obtain ⟨c1, c2⟩ := vF3 (N := N) (r := j) (so := 2) (d := idB (m.drop 6)) (xo := some a) (by omega) cr hn hu hv j16 (Or.inr ⟨a, rfl, rfl, a9, idB_len _, idB_B _⟩)
  have c2 : k_X8_votesFor N g H T S (nd g n + 14) (nI 3) (nI (wN w n 1).toNat) (nI j) (some a) = nI (cW w n 1 ((wN w n 1).toNat % 2) j 2 (idB (m.drop 6)) T) := c2
  have kl : cW w n 1 ((wN w n 1).toNat % 2) j 2 (idB (m.drop 6)) T ≤ T := cRd_le (w := w) (n := n) (T := T) 1 j 2 (idB (m.drop 6))
  rw [a1, c2]
  refine wp_neg someN (wp_and c1 (wp_ite (fun d => ?_) (fun d => ?_))) <;> rw [n_lt' (by omega) (by omega)] at d
  · refine nx S ⟨cr, fr, eP0, e6⟩ (fun ⟨m', q1, q2, _⟩ => ?_)
    rw [so m' q1] at q2
    omega
  refine wp_call (approves_C (N := N) (by omega) cr hn hu k fr j16 a2) (fun q => ?_)
  obtain ⟨i1, i2, i3⟩ := q
  generalize k_X7_approves N g H T S (some (nd g n)) (nI j) = z at i1 i2 i3 ⊢
  obtain ⟨z1, S1⟩ := z
  have i1 : CR F g H T S1 ct hd w pe := i1
  have i2 : cfr (apP g n) S S1 := i2
  have nd6 : ¬ apP g n (nd g n + 6) := by unfold apP drP nd; omega
  have st : dcI F g H T s ct hd w pe n S1 := ⟨i1, by rw [i2.I 5 _ nd6]; exact fr, by rw [i2.2.2.2.2.2.1]; exact eP0, e6.trans (i2.six (fun m _ c => by unfold apP drP nd; omega))⟩
  show wp (KO_X7_decides_168 N g H T (KOL_X7_decides_116 N g H T r) (some (nd g n)) (nd g n + 14) (nI j) (some a) z1 S1) (KF_X7_decides_168 N g H T (KL_X7_decides_116 N g H T r) (some (nd g n)) (nd g n + 14) (nI j) (some a) z1 S1) _
  unfold KO_X7_decides_168 KF_X7_decides_168
  rcases i3 with ⟨i3, i4⟩ | ⟨i3, i4⟩
  · have i3 : z1 = nI 1 := i3
    rw [i3]
    exact wp_neg (show ¬ nI 1 = 0 by decide) (wp_fin trivial ⟨st, Or.inl ⟨j, m, a, lst_is ⟨m, a2, by omega, i4⟩ no 16 j16, j16, a2, by rw [← eP0]; exact a1, a3, a7, rfl, rfl, rfl⟩⟩)
  · have i3 : z1 = nI 0 := i3
    rw [i3]
    refine wp_pos (show nI 0 = 0 from rfl) (nx S1 st (fun ⟨m', q1, _, q3⟩ => ?_))
    rw [so m' q1] at q3
    exact i4 q3
/-- what decides leaves -/
def dcP (F g H T : Nat) (s : cS) (ct : Nat → List Nat) (hd : List Nat) (w : Wd) (pe : Nat → Int) (n : Nat) (z : Int32 × cS) : Prop := (∃ j m, lst (deS w n T F) T = some j ∧ wY w n 6 j = some m ∧ z.1 = nI 1 ∧ adP F g H T ct hd w pe n (m.drop 1) z.2 ∧ m6 g H n s z.2) ∨ (lst (deS w n T F) T = none ∧ ∃ r m, lst (deH w n T F) 16 = some r ∧ wY w n 4 (16 * ((wN w n 1).toNat % 2) + r) = some m ∧ z.1 = nI 1 ∧ adP F g H T ct hd w pe n (m.drop 6) z.2 ∧ m6 g H n s z.2) ∨ (lst (deS w n T F) T = none ∧ lst (deH w n T F) 16 = none ∧ z.1 = nI 0 ∧ CR F g H T z.2 ct hd w pe ∧ cI z.2 5 (nd g n + 6) = nI 0 ∧ m6 g H n s z.2)
theorem decides_C (hN : 200 ≤ N) (h : CR F g H T s ct hd w pe) (hn : n < H) (hl : hd.length ≤ 25) (k : GN F H T G w n) (gk : giK (wN w n)) (hu : wN w n 0 = 1) (h40 : wN w n 1 ≤ 40) (hp : pe n = -1) (hf : cI s 5 (nd g n + 6) = nI 0) (hch : chO w n) (hnd : nDp (wP w n)) : wp (p_X7_decides N g H T s (some (nd g n))) (k_X7_decides N g H T s (some (nd g n))) (dcP F g H T s ct hd w pe n) := by
  have cb := h.1.bb
  have o := k.ok h.1 gk
  have o1 := o.h
  have u := k.uo h.1 gk hn hu
  show wp (KO_X7_decides_0 N g H T (some (nd g n)) s) (KF_X7_decides_0 N g H T (some (nd g n)) s) _
  unfold KO_X7_decides_0 KF_X7_decides_0
  rw [zsome]
  refine wp_and someN (wp_seq (dec_l7 hN h hn k (by omega) hf) (fun Z hZ => ?_))
  obtain ⟨⟨cr, fr, eP0, e6⟩, hZ⟩ := hZ
  unfold KOA_X7_decides_7 KA_X7_decides_7
  rcases hZ with ⟨j, m, a, z1, z2, z3, z4, z5, z6, z7, z8, z9⟩ | ⟨z1, z7, z8, z9⟩
  · rw [if_pos z7, if_pos z7, z8, z9]
    generalize Z.2.2.2.2 = S at cr fr eP0 e6 ⊢
    unfold KO_X7_decides_100 KF_X7_decides_100 KO_X7_decides_106 KF_X7_decides_106
    have pl : cP S (nd g n + plO 2) j = some a := by rw [eP0]; exact z4
    refine wp_call (adopt_C (N := N) (at_ := 1) (e0 := 2) (i0 := j) (m := m) hN cr hn hl k u h40 hp (by decide) z2 pl z5 (at_4 hn (by decide) z2) (Or.inl ⟨rfl, z6⟩) rfl (k.d j m (by omega) z3).2.2.1 hch hnd) (fun q => wp_fin trivial (Or.inl ⟨j, m, z1, z3, rfl, q.1, e6.trans q.2⟩))
  · have n0 : ¬ Z.1 = 0 := by omega
    rw [if_neg n0, if_neg n0, z8, z9]
    generalize Z.2.2.2.2 = S at cr fr eP0 e6 ⊢
    unfold KO_X7_decides_114 KF_X7_decides_114
    refine wp_seq (dec_l116 hN cr hn k hu fr) (fun Y hY => ?_)
    obtain ⟨⟨cr2, fr2, eP2, f6⟩, hY⟩ := hY
    unfold KOA_X7_decides_116 KA_X7_decides_116
    rcases hY with ⟨r, m, a, y1, y2, y3, y4, y5, y6, y7, y8, y9⟩ | ⟨y1, y7⟩
    · rw [if_pos y7, if_pos y7, y8, y9]
      generalize Y.2.2.2 = S2 at cr2 fr2 eP2 f6 ⊢
      unfold KO_X7_decides_171 KF_X7_decides_171 KO_X7_decides_178 KF_X7_decides_178
      have pl : cP S2 (nd g n + plO 0) (16 * ((wN w n 1).toNat % 2) + r) = some a := by rw [eP2]; exact y4
      have lt : 16 * ((wN w n 1).toNat % 2) + r < plN T 0 := by show _ < 32; omega
      refine wp_call (adopt_C (N := N) (at_ := 6) (e0 := 0) (i0 := 16 * ((wN w n 1).toNat % 2) + r) (m := m) hN cr2 hn hl k u h40 hp (by decide) lt pl y5 (at_4 hn (by decide) lt) (Or.inr ⟨rfl, y6⟩) rfl (k.hd ((wN w n 1).toNat % 2) r m (by omega) y2 y3).2.2.2.2.1.2.2.1 hch hnd) (fun q => wp_fin trivial (Or.inr (Or.inl ⟨z1, r, m, y1, y3, rfl, q.1, (e6.trans f6).trans q.2⟩)))
    · have n1 : ¬ Y.1 = 0 := by omega
      rw [if_neg n1, if_neg n1]
      unfold KO_X7_decides_186 KF_X7_decides_186
      exact wp_fin trivial (Or.inr (Or.inr ⟨z1, y1, rfl, cr2, fr2, e6.trans f6⟩))
end
end

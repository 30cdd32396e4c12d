section
/-! THE CLASS'S RULES: takes, decides -/
section
variable {F N g H T n : Nat} {s s1 s' : cS} {ct : Nat → List Nat} {hd : List Nat} {w w' W : Wd} {pe pe' : Nat → Int} {a : Nat} {G : Gh}
/-- what taking a snapshot leaves -/
def tkP (F g H T : Nat) (ct : Nat → List Nat) (hd : List Nat) (w : Wd) (pe : Nat → Int) (n : Nat) (m : List Nat) (s' : cS) : Prop := ((aSnapN w n m).1 = true ∧ riC F g H T ct hd pe n (tw m 1) (aLift (aSnapN w n m).2 n (tw m 1) (sl m 3 32) (snB m)) s') ∨ ((aSnapN w n m).1 = false ∧ CR F g H T s' ct hd (aSnapN w n m).2 pe)
theorem takes_C (hN : 200 ≤ N) (h : CR F g H T s ct hd w pe) (hn : n < H) (hl : hd.length ≤ 25) (k : GN F H T G w n) (gk : giK (wN w n)) (hu : wN w n 0 = 1) (h40 : wN w n 1 ≤ 40) (hp : pe n = -1) : wp (p_X7_takes N g H T s (some (nd g n))) (k_X7_takes N g H T s (some (nd g n))) (fun z => (∃ j m, lst (snF w n T F) T = some j ∧ wY w n 3 j = some m ∧ z.1 = nI 1 ∧ tkP F g H T ct hd w pe n m z.2 ∧ m6 g H n s z.2) ∨ (lst (snF w n T F) T = none ∧ z = (nI 0, s))) := by
  have cb := h.1.bb
  have cF : F ≤ 4 := h.1.2.1
  have o := k.ok h.1 gk
  have o1 := o.h
  have u := k.uo h.1 gk hn hu
  have eT : cI s 1 (g + 8) = nI T := h.2.2.2.2.2.1.2.1
  show wp (KO_X7_takes_0 N g H T (some (nd g n)) s) (KF_X7_takes_0 N g H T (some (nd g n)) s) _
  unfold KO_X7_takes_0 KF_X7_takes_0
  rw [zsome]
  refine wp_and someN (wp_seq (Q := fun Z : Nat × Option Nat × Option Nat × cS => (∃ j m a, lst (snF w n T F) T = some j ∧ j < T ∧ wY w n 3 j = some m ∧ wN w n 1 < tw m 1 ∧ cP s (nd g n + 22) j = some a ∧ ct a = m ∧ snOK m ∧ Z = (0, some (nd g n), some a, s)) ∨ (lst (snF w n T F) T = none ∧ Z = (1, none, none, s))) ?_ (fun Z hZ => ?_))
  rotate_left
  · unfold KOA_X7_takes_7 KA_X7_takes_7 KO_X7_takes_56 KF_X7_takes_56 KO_X7_takes_61 KF_X7_takes_61 KO_X7_takes_69 KF_X7_takes_69
    rcases hZ with ⟨j, m, a, z1, z2, z3, z4, z5, z6, z7, z8⟩ | ⟨z1, z8⟩
    · have e0 : Z.1 = 0 := by rw [z8]
      rw [if_pos e0, if_pos e0, z8]
      refine wp_call (takeSnap_C (N := N) hN h hn hl u h40 o.sa hp z2 z5 z6 z7 z4) (fun q => wp_fin trivial (Or.inl ⟨j, m, z1, z3, rfl, q⟩))
    · have e0 : ¬ Z.1 = 0 := by rw [z8]; exact (by decide : ¬ (1 : Nat) = 0)
      rw [if_neg e0, if_neg e0, z8]
      exact wp_fin trivial (Or.inr ⟨z1, rfl⟩)
  refine wp_loop (K := T) (fun j (_ : Unit) => ∀ i, i < j → ¬ snF w n T F i) (fun r j _ => KOL_X7_takes_7 N g H T r (some (nd g n)) (nd g n + 14) (nI j) s) (fun r j _ => KL_X7_takes_7 N g H T r (some (nd g n)) (nd g n + 14) (nI j) s) (fun r j X hj hI ih => ?_) 0 N () (by omega) (by omega) (fun i hi => absurd hi (by omega))
  unfold KOL_X7_takes_7 KL_X7_takes_7 KOB_X7_takes_7 KB_X7_takes_7 KO_X7_takes_63 KF_X7_takes_63
  rw [eT, zsome, h.h1 hn (by omega), h.hF]
  by_cases e : j = T
  · subst e
    exact wp_and someN (wp_pos (by rw [n_le' (by omega) (by omega)]; omega) (wp_fin trivial (Or.inr ⟨lst_no j hI, rfl⟩)))
  have eP : nd g n + 14 + 8 = nd g n + 22 := rfl
  rw [n_clamp (by omega), n_add, eP]
  refine wp_and someN (wp_neg (by rw [n_le' (by omega) (by omega)]; omega) (wp_and ((n_in (by omega)).2 (by omega)) ?_))
  have nx : ¬ snF w n T F j → wp (KOL_X7_takes_7 N g H T r (some (nd g n)) (nd g n + 14) (nI (j + 1)) s) (KL_X7_takes_7 N g H T r (some (nd g n)) (nd g n + 14) (nI (j + 1)) s) (fun Z : Nat × Option Nat × Option Nat × cS => (∃ j m a, lst (snF w n T F) T = some j ∧ j < T ∧ wY w n 3 j = some m ∧ wN w n 1 < tw m 1 ∧ cP s (nd g n + 22) j = some a ∧ ct a = m ∧ snOK m ∧ Z = (0, some (nd g n), some a, s)) ∨ (lst (snF w n T F) T = none ∧ Z = (1, none, none, s))) := fun q => ih () (fun i hi => by
    by_cases d : i = j
    · rw [d]; exact q
    · exact hI i (by omega)) (by omega)
  rcases snp_at h hn k (show j < T by omega) with ⟨v1, v2⟩ | ⟨a, m, v1, v2, v3, v4, v5, v6, v7, v8⟩
  · rw [v1]
    exact wp_pos rfl (nx (fun ⟨m, q, _⟩ => by rw [v2] at q; cases q))
  have so : ∀ m', wY w n 3 j = some m' → m' = m := fun m' q => by
    rw [v2] at q
    exact (Option.some.inj q).symm
  have tl := tw_lt v8 1
  obtain ⟨t1, t2⟩ := two_ok (N := N) (g := g) (H := H) (T := T) (i := 1) v4 (by omega)
  have t3 : twM m 1 = tw m 1 := by
    unfold twM
    rw [if_pos (by rw [v7.1]; omega)]
  rw [t3] at t2
  obtain ⟨k1, k2⟩ := snapshotsLike_C (N := N) hN h hn k v4 v7.1 v3
  have kl := snC_le w n m T
  rw [v1, zsome, t2, k2]
  refine wp_neg someN (wp_and t1 (wp_ite (fun c => ?_) (fun c => ?_))) <;> rw [n_le' (by omega) (by omega)] at c
  · refine nx (fun ⟨m', q1, q2, _⟩ => ?_)
    rw [so m' q1] at q2
    omega
  refine wp_and k1 (wp_ite (fun c2 => ?_) (fun c2 => ?_)) <;> rw [n_le' (by omega) (by omega)] at c2
  · refine nx (fun ⟨m', q1, _, q3⟩ => ?_)
    rw [so m' q1] at q3
    omega
  · exact wp_fin trivial (Or.inl ⟨j, m, a, lst_is ⟨m, v2, by omega, by omega⟩ hI T (by omega), by omega, v2, by omega, v1, v3, v7, rfl⟩)
end
end

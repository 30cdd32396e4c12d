section
/-! WHAT COMES TO A NODE: a proof of what one did -/
section
variable {F N g H T n : Nat} {s s0 S : cS} {ct : Nat → List Nat} {hd : List Nat} {w w' V X : Wd} {pe pe' : Nat → Int} {a b e i : Nat} {G : Gh}
theorem CRb.pt (h : CRb F g H T s ct (a :: hd) w pe n) (hn : n < H) (he : e < 6) (hi : i < plN T e) (hx : cP s (nd g n + plO e) i = none) (q1 : (e = 1 ∨ e = 3 ∨ e = 4) → (ct a).length ≤ 128) (q2 : e ≤ 2 → cI s 4 a = nI 1) : CRb F g H T (csP s (nd g n + plO e) i (some a)) ct hd w pe n := by
  obtain ⟨h1, h2, h3, h4, h5, h6⟩ := h
  have b := plO_b e
  have k5 := h4.k (us_self (g := g) (H := H) (T := T) (s := s) (a := a) (hd := hd))
  have k24 : cK s (nd g n + plO e) = 24 := by
    rcases (show e = 0 ∨ e = 1 ∨ e = 2 ∨ e = 3 ∨ e = 4 ∨ e = 5 by omega) with rfl | rfl | rfl | rfl | rfl | rfl
    · exact (h2.2.1 6 2 (nd g n + 14) (o53 (isO5 hn)) (by omega) _ rfl).2.1
    · exact (h2.2.1 6 4 (nd g n + 14) (o53 (isO5 hn)) (by omega) _ rfl).2.1
    · exact (h2.2.1 6 6 (nd g n + 14) (o53 (isO5 hn)) (by omega) _ rfl).2.1
    · exact (h2.2.1 6 8 (nd g n + 14) (o53 (isO5 hn)) (by omega) _ rfl).2.1
    · exact (h2.2.1 6 9 (nd g n + 14) (o53 (isO5 hn)) (by omega) _ rfl).2.1
    · exact (h2.2.1 5 7 (nd g n) (isO5 hn) (by omega) _ rfl).2.1
  exact ⟨h1, h2.P24 k24 (tK_some k5), h3, h4.ptR hn he hi hx q1 q2, h5.fr rfl rfl rfl rfl (fun m _ => cP_other _ _ _ (by unfold nd; omega)), h6.one hn (xfr_P.mono (fun b' _ z => by unfold ndP; omega)) (cP_other _ _ _ (by omega))⟩
theorem csI_P {S : cS} {r j k c : Nat} {x : Option Nat} {v : Int32} : csI (csP S r j x) k c v = csP (csI S k c v) r j x := rfl
theorem addProof_C {m : List Nat} (h : CR F g H T s ct hd w pe) (hn : n < H) (hl : hd.length ≤ 25) (hu : wN w n 0 = 1) (ha : a ∈ hd) (hca : ct a = m) (h1 : bg m 1 < T) (h2 : 2 ≤ m.length) (h7 : m.length ≤ 128) : wp (p_X8_addProof N g H T s (nd g n + 14) (some a)) (k_X8_addProof N g H T s (nd g n + 14) (some a)) (fun z => CR F g H T z.2 ct hd (aKp w n m).2 pe ∧ z.1 = nI (if (aKp w n m).1 then 1 else 0)) := by
  have cb := h.1.bb
  have ua := us_in (g := g) (H := H) (T := T) (s := s) ha
  have ms := h.ms ua
  rw [hca] at ms
  obtain ⟨s1, s2⟩ := signer_c (N := N) (g := g) (H := H) (T := T) ms h2
  have eS : cI s 1 (nd g n + 14) = nI T := (h.node hn).2.2.2.2.2.2.2.2.2.2.2.2.1
  have aH := h.2.2.2.1.n ms.1
  have nH : nd g n + 24 ≤ nd g H := by unfold nd; omega
  have e9 : nd g n + 14 + 9 = nd g n + 23 := rfl
  show wp (KO_X8_addProof_0 N g H T (nd g n + 14) (some a) s) (KF_X8_addProof_0 N g H T (nd g n + 14) (some a) s) _
  unfold KO_X8_addProof_0 KF_X8_addProof_0 KO_X8_addProof_22 KF_X8_addProof_22 KO_X8_addProof_41 KF_X8_addProof_41
  rw [zsome, s2, eS, n_clamp (by omega), e9]
  refine wp_and ⟨someN, s1⟩ (wp_neg (by rw [n_le' (by omega) (by omega)]; omega) (wp_and ((n_in (by omega)).2 (by omega)) ?_))
  obtain ⟨z, cz, oz⟩ := h.z_ hn
  obtain ⟨-, -, -, -, -, -, -, ⟨c8, c8b, c8c⟩, ⟨c9, c9b, c9c⟩, c10, -⟩ := id cz.nz
  have qk := c9b (bg m 1) h1
  unfold aKp
  cases e : cP s (nd g n + 23) (bg m 1) with
  | some a' =>
    rw [e] at qk
    have qk : wY w n 2 (bg m 1) = some (ct a') := qk.symm
    rw [qk]
    exact wp_neg someN (wp_fin trivial ⟨h, rfl⟩)
  | none =>
    rw [e] at qk
    have qk : wY w n 2 (bg m 1) = none := qk.symm
    rw [qk]
    have i3 : cI (csP s (nd g n + 23) (bg m 1) (some a)) 3 a = cI s 3 a := rfl
    rw [i3, csI_P]
    have i13 : cI (csP (csI s 3 a (cI s 3 a + nI 1)) (nd g n + 23) (bg m 1) (some a)) 13 (nd g n + 14) = nI (cnt (fun k => wY w n 2 k ≠ none) T) := by
      show cI (csI s 3 a (cI s 3 a + nI 1)) 13 (nd g n + 14) = _
      rw [cI_other _ _ (Or.inl (by decide))]
      exact c9c
    rw [i13, n_add]
    refine wp_pos rfl (wp_and ((n_in (by omega)).2 (by omega)) (wp_fin trivial ⟨?_, rfl⟩))
    have b1 := (cz.bb.up_ ua).pt (e := 4) (i := bg m 1) hn (by decide) h1 e (fun _ => by rw [hca]; exact h7) (fun q => absurd q (by decide))
    have b1 : CRb F g H T (csP (csI s 3 a (cI s 3 a + nI 1)) (nd g n + 23) (bg m 1) (some a)) ct hd w pe n := b1
    have b2 := b1.set hn (s' := csI (csP (csI s 3 a (cI s 3 a + nI 1)) (nd g n + 23) (bg m 1) (some a)) 13 (nd g n + 14) (nI (cnt (fun k => wY w n 2 k ≠ none) T + 1))) ((cfr_I _ _ _ _).mono (fun b z => by unfold ndP; omega)) (b1.2.1.I _ _ _)
    have pO : ∀ o, o ≠ 23 → cP (csI (csP (csI s 3 a (cI s 3 a + nI 1)) (nd g n + 23) (bg m 1) (some a)) 13 (nd g n + 14) (nI (cnt (fun k => wY w n 2 k ≠ none) T + 1))) (nd g n + o) = cP s (nd g n + o) := fun o ho => cP_other _ _ _ (by omega)
    have pA : ∀ j, cP (csI (csP (csI s 3 a (cI s 3 a + nI 1)) (nd g n + 23) (bg m 1) (some a)) 13 (nd g n + 14) (nI (cnt (fun k => wY w n 2 k ≠ none) T + 1))) (nd g n + 23) j = if j = bg m 1 then some a else cP s (nd g n + 23) j := fun j => cP_at _ _ _ _ _
    have iO : ∀ k o, o < 24 → (k ≠ 13 ∨ o ≠ 14) → cI (csI (csP (csI s 3 a (cI s 3 a + nI 1)) (nd g n + 23) (bg m 1) (some a)) 13 (nd g n + 14) (nI (cnt (fun k => wY w n 2 k ≠ none) T + 1))) k (nd g n + o) = cI s k (nd g n + o) := fun k o ho hk => by
      rw [cI_other _ _ (by omega)]
      show cI (csI s 3 a (cI s 3 a + nI 1)) k (nd g n + o) = _
      exact cI_other _ _ (Or.inr (by omega))
    have iS : cI (csI (csP (csI s 3 a (cI s 3 a + nI 1)) (nd g n + 23) (bg m 1) (some a)) 13 (nd g n + 14) (nI (cnt (fun k => wY w n 2 k ≠ none) T + 1))) 13 (nd g n + 14) = nI (cnt (fun k => wY w n 2 k ≠ none) T + 1) := cI_same _ _ _ _
    have fA : cA (csI (csP (csI s 3 a (cI s 3 a + nI 1)) (nd g n + 23) (bg m 1) (some a)) 13 (nd g n + 14) (nI (cnt (fun k => wY w n 2 k ≠ none) T + 1))) = cA s := rfl
    have fJ : cJ (csI (csP (csI s 3 a (cI s 3 a + nI 1)) (nd g n + 23) (bg m 1) (some a)) 13 (nd g n + 14) (nI (cnt (fun k => wY w n 2 k ≠ none) T + 1))) = cJ s := rfl
    have fR : cR (csI (csP (csI s 3 a (cI s 3 a + nI 1)) (nd g n + 23) (bg m 1) (some a)) 13 (nd g n + 14) (nI (cnt (fun k => wY w n 2 k ≠ none) T + 1))) = cR s := rfl
    have fK : cK (csI (csP (csI s 3 a (cI s 3 a + nI 1)) (nd g n + 23) (bg m 1) (some a)) 13 (nd g n + 14) (nI (cnt (fun k => wY w n 2 k ≠ none) T + 1))) = cK s ∧ cL (csI (csP (csI s 3 a (cI s 3 a + nI 1)) (nd g n + 23) (bg m 1) (some a)) 13 (nd g n + 14) (nI (cnt (fun k => wY w n 2 k ≠ none) T + 1))) = cL s ∧ cn (csI (csP (csI s 3 a (cI s 3 a + nI 1)) (nd g n + 23) (bg m 1) (some a)) 13 (nd g n + 14) (nI (cnt (fun k => wY w n 2 k ≠ none) T + 1))) = cn s := ⟨rfl, rfl, rfl⟩
    show CR F g H T (csI (csP (csI s 3 a (cI s 3 a + nI 1)) (nd g n + 23) (bg m 1) (some a)) 13 (nd g n + 14) (nI (cnt (fun k => wY w n 2 k ≠ none) T + 1))) ct hd (sBy w n 2 (bg m 1) (some m)) pe
    clear b1 i3 i13
    generalize csI (csP (csI s 3 a (cI s 3 a + nI 1)) (nd g n + 23) (bg m 1) (some a)) 13 (nd g n + 14) (nI (cnt (fun k => wY w n 2 k ≠ none) T + 1)) = s' at b2 pO pA iO iS fA fJ fR fK ⊢
    have eY : ∀ f, f ≠ 2 → wY (sBy w n 2 (bg m 1) (some m)) n f = wY w n f := fun f hf => funext fun j => by
      show (if n = n ∧ f = 2 ∧ j = bg m 1 then some m else w.2.1 n f j) = w.2.1 n f j
      exact if_neg (fun q => hf q.2.1)
    have e2 : ∀ j, wY (sBy w n 2 (bg m 1) (some m)) n 2 j = if j = bg m 1 then some m else wY w n 2 j := fun j => by
      show (if n = n ∧ 2 = 2 ∧ j = bg m 1 then some m else w.2.1 n 2 j) = _
      by_cases q : j = bg m 1
      · rw [if_pos ⟨rfl, rfl, q⟩, if_pos q]
      · rw [if_neg (fun z => q z.2.2), if_neg q]
        rfl
    have nz := cz.nz.row (s' := s') (y' := wY (sBy w n 2 (bg m 1) (some m)) n) (p' := wP w n) hn (by rw [fK.2.2]; exact Nat.le_refl _) (fun b _ => ⟨by rw [fK.1], by rw [fK.2.1]⟩) (fun b _ => by rw [fA]) (fun r _ _ _ _ => by rw [fA]) (fun b _ => by rw [fJ]) (fun k _ => by rw [fR]) (fun k o ho hk => iO k o ho (by omega)) (fun o _ _ _ o3 => pO o o3) ⟨?_, ?_, ?_⟩ ⟨?_, ?_, ?_⟩ ?_ (fun f f2 _ _ => eY f f2)
    · exact (b2.zz nz).cr (owZ_up oz hu hu (fun f j hf => by rw [eY f (by omega)])) (fun k hk => ⟨rfl, funext fun f => funext fun j => if_neg (fun q => hk q.1), rfl, rfl⟩) rfl rfl rfl (fun _ _ => rfl) rfl rfl rfl rfl rfl
    · rw [pO 20 (by decide), eY 6 (by decide)]
      exact c8
    · rw [fA, eY 6 (by decide)]
      exact c8b
    · rw [iO 11 14 (by decide) (by omega), eY 6 (by decide)]
      exact c8c
    · rw [pO 22 (by decide), eY 3 (by decide)]
      exact c9
    · intro j hj
      rw [pA, e2]
      by_cases q : j = bg m 1
      · rw [if_pos q, if_pos q]
        show some (ct a) = some m
        rw [hca]
      · rw [if_neg q, if_neg q]
        exact c9b j hj
    · rw [iS]
      congr 1
      have cu := cnt_u (A := fun k => wY (sBy w n 2 (bg m 1) (some m)) n 2 k ≠ none) (A' := fun k => wY w n 2 k ≠ none) (T := T) (j := bg m 1) h1 (fun k _ hk => by
        rw [e2, if_neg hk]) (by
        rw [e2, if_pos rfl]
        exact fun q => by cases q) (fun q => q qk)
      omega
    · unfold qP
      rw [iO 12 14 (by decide) (by omega), fJ]
      exact c10
end
end

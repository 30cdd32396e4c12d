section
/-! THE CLASS'S NODE BUILDS A BLOCK: all of it stands on the desk but its root -/
section
variable {F N g H T n u : Nat} {s s' s1 s2 X X' : cS} {ct ct' : Nat → List Nat} {hd : List Nat} {w w' : Wd} {pe : Nat → Int} {d : List Nat}
theorem pfX.fr {y : Nat → Option (List Nat)} (h : pfX g H T s n y) (f : cfr (blP g) s X) : pfX g H T X n y := fun j hj => by
  rcases h j hj with ⟨a, b⟩ | ⟨a, m, y1, y2, y3, y4, y5⟩
  · exact Or.inl ⟨a, by rw [f.2.2.2.2.2.1]; exact b⟩
  · have hg : g + 31 ≤ nd g H := by unfold nd; omega
    have na : ¬ blP g a := by unfold blP; omega
    have na2 : ¬ blP g (a + 2) := by unfold blP; omega
    refine Or.inr ⟨a, m, y1, by rw [f.2.2.2.2.2.1]; exact y2, y3, ⟨by rw [f.1]; exact y4.1, by rw [f.I _ _ na]; exact y4.2.1, y4.2.2.1.f f na2, y4.2.2.2.1, by rw [f.L]; exact y4.2.2.2.2.1, y4.2.2.2.2.2⟩, y5⟩
theorem bkC.fz {k : Bk} {o : Nat} {P : Nat → Prop} (h : bkC s o k) (f : cfr P s X) (h0 : ¬ P o) (h1 : ¬ P (o + 1)) (h2 : ¬ P (o + 2)) : bkC X o k := ⟨fun a ha => by rw [f.A _ h1, f.A _ h2]; exact h.1 a ha, by rw [f.I _ _ h0]; exact h.2⟩
theorem qP.fz {l : List (List Nat)} {b : Nat} {P : Nat → Prop} (h : qP s b l) (f : cfr P s X) (h0 : ¬ P (b + 14)) : qP X b l := ⟨by rw [f.I _ _ h0]; exact h.1, h.2.1, fun i hi => by rw [f.J]; exact h.2.2 i hi⟩
/-- what the two loops wrote, against the block -/
theorem bld_rows {h rd : Nat} {X0 X2 Y2 X3 S9 : cS} (hh : h = (wN w n 1).toNat) (hd' : wY w n 9 0 = some d) (dk : dkH g X0 n h rd d (acR (bkN (wN w) n))) (r2 : rwW X0 X2 (g + 28) 107 (bldE w n T).flatten) (q2 : ∀ i, cA Y2 (g + 28) i = if i = 106 then sb (bldE w n T).length else cA X2 (g + 28) i) (r3 : rwW Y2 X3 (g + 28) (107 + (bldE w n T).flatten.length) (bldY w n T).flatten) (q3 : ∀ i, cA S9 (g + 28) i = if i = 105 then sb (bldY w n T).length else cA X3 (g + 28) i) : (∀ i, i < (aBld w n T).length → ¬ (67 ≤ i ∧ i < 99) → cA S9 (g + 28) (6 + i) = sb (bg (aBld w n T) i)) ∧ ∀ i, i < 6 → cA S9 (g + 28) i = sb (bg (prB n h rd (-1) []) i) := by
  have fl : (bldP w n T).flatten.length = (bldE w n T).flatten.length + (bldY w n T).flatten.length := by
    unfold bldP
    rw [List.flatten_append, List.length_append]
  have low : ∀ i, i < 73 → cA S9 (g + 28) i = cA X0 (g + 28) i := fun i hi => by
    rw [q3, if_neg (by omega), r3 i, if_neg (by omega), q2, if_neg (by omega), r2 i, if_neg (by omega)]
  have dk' := dk.fr low
  refine ⟨fun i hi hc => ?_, dk'.1⟩
  have hl : (aBld w n T).length = 101 + (bldP w n T).flatten.length := mkB_len _ _
  have e : bg (aBld w n T) i = bldI w n T d i := by
    unfold aBld
    rw [hd', mkB_bg, if_pos (by rw [← hl]; exact hi)]
    rfl
  rw [e]
  unfold bldI
  by_cases c0 : i = 0
  · rw [if_pos c0, c0, ← hh]
    exact dk'.2.1
  rw [if_neg c0]
  by_cases c1 : i = 1
  · rw [if_pos c1, c1, ← hh]
    exact dk'.2.2.1
  rw [if_neg c1]
  by_cases c2 : i = 2
  · rw [if_pos c2, c2]
    exact dk'.2.2.2.1
  rw [if_neg c2]
  by_cases c3 : i < 35
  · rw [if_pos c3, show 6 + i = 9 + (i - 3) by omega]
    exact dk'.2.2.2.2.1 _ (by omega)
  rw [if_neg c3]
  by_cases c4 : i < 67
  · rw [if_pos c4, show 6 + i = 41 + (i - 35) by omega]
    exact dk'.2.2.2.2.2 _ (by omega)
  rw [if_neg c4, if_neg (by omega)]
  by_cases c5 : i = 99
  · rw [if_pos c5, q3, if_pos (by omega)]
  rw [if_neg c5, q3, if_neg (by omega)]
  by_cases c6 : i = 100
  · rw [if_pos c6, r3, if_neg (by omega), q2, if_pos (by omega)]
  rw [if_neg c6]
  have ef : (bldP w n T).flatten = (bldE w n T).flatten ++ (bldY w n T).flatten := by
    unfold bldP
    rw [List.flatten_append]
  rw [ef, bg_app]
  by_cases c7 : i - 101 < (bldE w n T).flatten.length
  · rw [if_pos c7, r3, if_neg (by omega), q2, if_neg (by omega), r2, if_pos (by omega), show 6 + i - 107 = i - 101 by omega]
  · rw [if_neg c7, r3, if_pos (by omega), show 6 + i - (107 + (bldE w n T).flatten.length) = i - 101 - (bldE w n T).flatten.length by omega]
theorem bld_97 {P : Option Nat × cS → Prop} {h rd : Nat} {X0 : cS} (hN : 100 ≤ N) (hT : T ≤ 13) (hn : n < H) (n13 : n < 13) (hL : cL s (g + 28) = 1024) (hb : bkC s (nd g n + 6) (bkN (wN w) n)) (ok : bkOK (bkN (wN w) n)) (eT : cI s 1 (g + 8) = nI T) (eS : cI s 1 (nd g n + 14) = nI T) (e1 : cI s 1 (nd g n) = nI n) (hp : pfX g H T s n (wY w n 2)) (hlB : ∀ j m, j < 13 → wY w n 2 j = some m → m.length ≤ 72 ∧ isB m) (hq : qP s (nd g n) (wP w n)) (hl : ∀ q, q < (wP w n).length → (pg (wP w n) q).length = 7 ∧ isB (pg (wP w n) q) ∧ bg (pg (wP w n) q) 0 < 16 ∧ bg (pg (wP w n) q) 1 < 16) (hd' : wY w n 9 0 = some d) (hh : h = (wN w n 1).toNat) (hK : cK s (g + 28) = 20) (hS0 : St u g H T X0) (f0 : cfr (fun x => x = g + 28) s X0) (dk : dkH g X0 n h rd d (acR (bkN (wN w) n))) (go : ∀ X, cfr (blP g) s X → St u g H T X → (∀ i, i < (aBld w n T).length → ¬ (67 ≤ i ∧ i < 99) → cA X (g + 28) (6 + i) = sb (bg (aBld w n T) i)) → (∀ i, i < 6 → cA X (g + 28) i = sb (bg (prB n h rd (-1) []) i)) → wp (KO_X7_build_97 N g H T (g + 8) (some (g + 28)) (nI 6) (nI (6 + (aBld w n T).length)) X) (KF_X7_build_97 N g H T (g + 8) (some (g + 28)) (nI 6) (nI (6 + (aBld w n T).length)) X) P) : wp (KO_X7_build_72 N g H T (some (nd g n)) (g + 8) (some (g + 28)) (nI 6) X0) (KF_X7_build_72 N g H T (some (nd g n)) (g + 8) (some (g + 28)) (nI 6) X0) P := by
  have nn : ∀ o, ¬ nd g n + o = g + 28 := fun o => by unfold nd; omega
  have po := evS_ok (w := w) (n := n) ok (by omega) hlB T hT
  have pq := pyS_ok (l := wP w n) (k := (evS w n T).1) (n := n) po.1 (by omega) hl (wP w n).length (Nat.le_refl _)
  unfold KO_X7_build_72 KF_X7_build_72
  rw [zsome]
  have hb0 : bkC X0 (nd g n + 6) (bkN (wN w) n) := hb.fz f0 (nn 6) (nn 7) (nn 8)
  have mc := mirror_c (N := N) (g := g) (H := H) (T := T) (o := g + 18) hb0 (Or.inr (by unfold nd; omega))
  have st1 := (kpc_X0_mirror hS0 (o88 (isO8 (H := H))) (o54 (isO5 hn)) mc.1).1
  refine wp_and someN (wp_call mc ?_)
  rintro ⟨m1, m2⟩
  generalize k_X0_mirror N g H T X0 (g + 18) (nd g n + 6) = X1 at m1 m2 st1 ⊢
  have f1 : cfr (blP g) s X1 := (f0.mono (P' := blP g) (fun x hx => Or.inl hx)).trans (m1.1.mono (fun x hx => by unfold blP; omega))
  have a28 : cA X1 (g + 28) = cA X0 (g + 28) := m1.1.A _ (by omega)
  unfold KO_X7_build_83 KF_X7_build_83
  rw [n_add]
  have ae := (addEvidences_c (H := H) (N := N) (s := X1) (w := w) (fr := 6 + 101) hN hT hn n13 (by rw [f1.L]; exact hL) m2 ok (by rw [f1.I _ _ (by unfold blP; omega)]; exact eT) (by rw [f1.I _ _ blP_n]; exact eS) (by rw [f1.I 1 (nd g n) (blP_n (o := 0))]; exact e1) (hp.fr f1) (by omega) hlB)
  have st2 := (kpc_X7_addEvidences st1 (tN_some (isO5 hn)) (tK_some (by rw [f1.1]; exact hK)) ae.1).1
  refine wp_call ae ?_
  rintro ⟨X2, z2, i1, i2, i3⟩
  rw [z2] at st2 ⊢
  have st2 : St u g H T (csA X2 (g + 28) 106 (sb (evS w n T).2.length)) := st2
  have q2 : ∀ i, cA (csA X2 (g + 28) 106 (sb (evS w n T).2.length)) (g + 28) i = if i = 106 then sb (evS w n T).2.length else cA X2 (g + 28) i := fun i => by rw [cA_at]
  have f2 : cfr (blP g) s (csA X2 (g + 28) 106 (sb (evS w n T).2.length)) := (f1.trans i1).trans ((cfr_A _ _ _).mono (fun x hx => Or.inl hx))
  have k2 : bkC (csA X2 (g + 28) 106 (sb (evS w n T).2.length)) (g + 18) (evS w n T).1 := i2.ob ⟨by omega, by omega, by omega⟩
  generalize csA X2 (g + 28) 106 (sb (evS w n T).2.length) = Y2 at q2 f2 k2 st2 ⊢
  unfold KO_X7_build_94 KF_X7_build_94
  show wp (p_X7_addPayments N g H T Y2 (some (nd g n)) (some (g + 28)) (nI (6 + 101 + (evS w n T).2.flatten.length)) ∧ KO_X7_build_97 N g H T (g + 8) (some (g + 28)) (nI 6) (k_X7_addPayments N g H T Y2 (some (nd g n)) (some (g + 28)) (nI (6 + 101 + (evS w n T).2.flatten.length))).1 (k_X7_addPayments N g H T Y2 (some (nd g n)) (some (g + 28)) (nI (6 + 101 + (evS w n T).2.flatten.length))).2) (KF_X7_build_97 N g H T (g + 8) (some (g + 28)) (nI 6) (k_X7_addPayments N g H T Y2 (some (nd g n)) (some (g + 28)) (nI (6 + 101 + (evS w n T).2.flatten.length))).1 (k_X7_addPayments N g H T Y2 (some (nd g n)) (some (g + 28)) (nI (6 + 101 + (evS w n T).2.flatten.length))).2) P
  have ap := (addPayments_c (H := H) (T := T) (N := N) (s := Y2) (l := wP w n) (k := (evS w n T).1) (fr := 6 + 101 + (evS w n T).2.flatten.length) hN n13 (by rw [f2.L]; exact hL) k2 po.1 (hq.fz f2 blP_n) (by rw [f2.I 1 (nd g n) (blP_n (o := 0))]; exact e1) (by omega) hl)
  have st3 := (kpc_X7_addPayments st2 (tN_some (isO5 hn)) (tK_some (by rw [f2.1]; exact hK)) ap.1).1
  refine wp_call ap ?_
  rintro ⟨X3, z3, j1, j2, j3⟩
  rw [z3] at st3 ⊢
  have st3 : St u g H T (csA X3 (g + 28) 105 (sb (pyS (wP w n) (evS w n T).1 n (wP w n).length).2.length)) := st3
  have q3 : ∀ i, cA (csA X3 (g + 28) 105 (sb (pyS (wP w n) (evS w n T).1 n (wP w n).length).2.length)) (g + 28) i = if i = 105 then sb (pyS (wP w n) (evS w n T).1 n (wP w n).length).2.length else cA X3 (g + 28) i := fun i => by rw [cA_at]
  have f3 : cfr (blP g) s (csA X3 (g + 28) 105 (sb (pyS (wP w n) (evS w n T).1 n (wP w n).length).2.length)) := (f2.trans j1).trans ((cfr_A _ _ _).mono (fun x hx => Or.inl hx))
  generalize csA X3 (g + 28) 105 (sb (pyS (wP w n) (evS w n T).1 n (wP w n).length).2.length) = S9 at q3 f3 st3 ⊢
  have i3' : rwW X0 X2 (g + 28) 107 (bldE w n T).flatten := fun i => by
    have := i3 i
    rw [a28] at this
    exact this
  obtain ⟨w1, w2⟩ := bld_rows (T := T) (S9 := S9) hh hd' dk i3' q2 j3 q3
  have hl' : (aBld w n T).length = 101 + (bldP w n T).flatten.length := mkB_len _ _
  have fl : (bldP w n T).flatten.length = (evS w n T).2.flatten.length + (pyS (wP w n) (evS w n T).1 n (wP w n).length).2.flatten.length := by
    unfold bldP bldE bldY
    rw [List.flatten_append, List.length_append]
  have g9 := go S9 f3 st3 w1 w2
  rw [hl', fl] at g9
  have ee : 6 + (101 + ((evS w n T).2.flatten.length + (pyS (wP w n) (evS w n T).1 n (wP w n).length).2.flatten.length)) = 6 + 101 + (evS w n T).2.flatten.length + (pyS (wP w n) (evS w n T).1 n (wP w n).length).2.flatten.length := by omega
  rw [ee] at g9
  exact g9
end
end

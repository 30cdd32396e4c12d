section
/-! THE CLASS'S NODE BUILDS A BLOCK: payments and evidences -/
/-- bytes stand in a row from a place on, the rest is as before -/
def rwW (s X : cS) (r fr : Nat) (fl : List Nat) : Prop := ∀ i, cA X r i = if fr ≤ i ∧ i < fr + fl.length then sb (bg fl (i - fr)) else cA s r i
/-- the desk and the draft -/
def blP (g x : Nat) : Prop := x = g + 28 ∨ x = g + 18 ∨ x = g + 19 ∨ x = g + 20
section
variable {F N g H T n : Nat} {s s' s1 s2 X X' : cS} {ct ct' : Nat → List Nat} {hd : List Nat} {w w' : Wd} {pe : Nat → Int} {a r fr : Nat} {fl p : List Nat}
theorem rwW.app (h : rwW s X r fr fl) (h' : ∀ i, cA X' r i = if fr + fl.length ≤ i ∧ i < fr + fl.length + p.length then sb (bg p (i - (fr + fl.length))) else cA X r i) : rwW s X' r fr (fl ++ p) := fun i => by
  rw [h' i, List.length_append]
  by_cases c : fr + fl.length ≤ i ∧ i < fr + fl.length + p.length
  · rw [if_pos c, if_pos (by omega), bg_app, if_neg (by omega)]
    congr 2
    omega
  · rw [if_neg c, h i]
    by_cases d : fr ≤ i ∧ i < fr + fl.length
    · rw [if_pos d, if_pos (by omega), bg_app, if_pos (by omega)]
    · rw [if_neg d, if_neg (by omega)]
theorem rwW.same (h : rwW s X r fr fl) (h' : cA X' r = cA X r) : rwW s X' r fr fl := fun i => by rw [h']; exact h i
theorem putCode_c (hN : 100 ≤ N) (hp : isB p) (lp : p.length = 7) (ha : a + 7 ≤ cL s r) (hl : cL s r ≤ 3000) : wp (p_X0_putCode N g H T s (coD p) (some r) (nI a)) (k_X0_putCode N g H T s (coD p) (some r) (nI a)) (fun Z => ∃ f, Z = csArow s r f ∧ ∀ i, f i = if a ≤ i ∧ i < a + 7 then sb (bg p (i - a)) else cA s r i) := by
  show wp (KO_X0_putCode_0 N g H T (coD p) (some r) (nI a) s) (KF_X0_putCode_0 N g H T (coD p) (some r) (nI a) s) _
  unfold KO_X0_putCode_0 KF_X0_putCode_0
  refine wp_seq (Q := fun Z : Nat × cS => ∃ f, Z.2 = csArow s r f ∧ ∀ i, f i = if a ≤ i ∧ i < a + 7 then sb (bg p (i - a)) else cA s r i) ?_ (fun Z hZ => wp_fin trivial hZ)
  refine wp_loop (K := 7) (fun j (X : cS) => ∃ f, X = csArow s r f ∧ ∀ i, f i = if a ≤ i ∧ i < a + j then sb (bg p (i - a)) else cA s r i) (fun m j X => KOL_X0_putCode_3 N g H T m (coD p) (some r) (nI a) (nI j) X) (fun m j X => KL_X0_putCode_3 N g H T m (coD p) (some r) (nI a) (nI j) X) (fun m j X hj hI ih => ?_) 0 N s (by omega) (by omega) ⟨cA s r, ?_, fun i => by rw [if_neg (by omega)]⟩
  · obtain ⟨f, rfl, hf⟩ := hI
    unfold KOL_X0_putCode_3 KL_X0_putCode_3 KOB_X0_putCode_3 KB_X0_putCode_3
    by_cases c : j = 7
    · subst c
      exact wp_pos (by rw [n_le' (by omega) (by omega)]; omega) (wp_fin trivial ⟨f, rfl, hf⟩)
    have eL : cL (csArow s r f) r = cL s r := rfl
    rw [zsome, n_add, n_add, n_clamp (by omega), eL]
    have bb : ((Int64.toInt32 (coD p >>> (Int32.toInt64 (nI 48 - nI 8 * nI j) &&& 63))).toInt8.toInt32).toInt8.toInt32 = sb (bg p j) := by
      rw [b88, ← toInt8_and]
      have e8 : nI 48 - nI 8 * nI j = nI 56 - nI 8 * nI (j + 1) := by
        rcases (show j = 0 ∨ j = 1 ∨ j = 2 ∨ j = 3 ∨ j = 4 ∨ j = 5 ∨ j = 6 by omega) with rfl | rfl | rfl | rfl | rfl | rfl | rfl <;> rfl
      have e := coD_byt hp (k := j + 1) (by omega)
      rw [if_neg (by omega), show j + 1 - 1 = j by omega] at e
      have e : Int64.toInt32 (coD p >>> (Int32.toInt64 (nI 56 - nI 8 * nI (j + 1)) &&& 63)) &&& nI 255 = nI (bg p j) := e
      rw [e8, e]
      rfl
    rw [bb]
    refine wp_neg (by rw [n_le' (by omega) (by omega)]; omega) (wp_neg (n_lt0 (by omega)) (wp_and someN (wp_neg (by rw [n_le' (by omega) (by omega)]; omega) (wp_and ⟨someN, ((n_in (by omega)).2 (by omega))⟩ (ih _ ⟨upd f (a + j) (sb (bg p j)), ?_, fun i => ?_⟩ (by omega))))))
    · rw [csA_row, cA_same, row_row]
    · by_cases e : i = a + j
      · rw [e, upd_same, if_pos (by omega), show a + j - a = j by omega]
      · rw [upd_other _ _ e, hf i]
        by_cases q : a ≤ i ∧ i < a + j
        · rw [if_pos q, if_pos (by omega)]
        · rw [if_neg q, if_neg (by omega)]
  · exact (row_self s r).symm
/-- what the two loops keep -/
def adI (g : Nat) (s X : cS) (fr : Nat) (k : Bk) (fl : List Nat) : Prop := cfr (blP g) s X ∧ bkC X (g + 18) k ∧ rwW s X (g + 28) fr fl
theorem blP_n {o : Nat} : ¬ blP g (nd g n + o) := by
  unfold blP nd
  omega
theorem addP_l {l : List (List Nat)} {k : Bk} (hN : 100 ≤ N) (n13 : n < 13) (hL : cL s (g + 28) = 1024) (hk : bkC s (g + 18) k) (ok : bkOK k) (hq : qP s (nd g n) l) (e1 : cI s 1 (nd g n) = nI n) (hfr : fr ≤ 300) (hl : ∀ q, q < l.length → (pg l q).length = 7 ∧ isB (pg l q) ∧ bg (pg l q) 0 < 16 ∧ bg (pg l q) 1 < 16) : wp (KOL_X7_addPayments_8 N g H T N (some (nd g n)) (some (g + 28)) (nI fr) (nI 0) (nI 0) s) (KL_X7_addPayments_8 N g H T N (some (nd g n)) (some (g + 28)) (nI fr) (nI 0) (nI 0) s) (fun z => ∃ X, z = (0, some (g + 28), nI (fr + (pyS l k n l.length).2.flatten.length), nI (pyS l k n l.length).2.length, X) ∧ adI g s X fr (pyS l k n l.length).1 (pyS l k n l.length).2.flatten) := by
  obtain ⟨q1, q2, q3⟩ := hq
  have po := pyS_ok (l := l) (n := n) ok (by omega) hl
  refine wp_loop (K := l.length) (fun j (X : cS) => adI g s X fr (pyS l k n j).1 (pyS l k n j).2.flatten) (fun m j X => KOL_X7_addPayments_8 N g H T m (some (nd g n)) (some (g + 28)) (nI (fr + (pyS l k n j).2.flatten.length)) (nI (pyS l k n j).2.length) (nI j) X) (fun m j X => KL_X7_addPayments_8 N g H T m (some (nd g n)) (some (g + 28)) (nI (fr + (pyS l k n j).2.flatten.length)) (nI (pyS l k n j).2.length) (nI j) X) (fun m j X hj hI ih => ?_) 0 N s (by omega) (by omega) ⟨cfr.refl, hk, fun i => by rw [if_neg (by show ¬ (fr ≤ i ∧ i < fr + 0); omega)]⟩
  have hI' := hI
  obtain ⟨i1, i2, i3⟩ := hI
  obtain ⟨o1, o2, o3, o4⟩ := po j hj
  have q1' : cI X 12 (nd g n + 14) = nI l.length := by rw [i1.I _ _ blP_n]; exact q1
  have e1' : cI X 1 (nd g n) = nI n := by rw [i1.I 1 (nd g n) (blP_n (o := 0))]; exact e1
  unfold KOL_X7_addPayments_8 KL_X7_addPayments_8 KOB_X7_addPayments_8 KB_X7_addPayments_8
  rw [zsome, q1', e1']
  refine wp_and someN ?_
  by_cases c : j = l.length
  · subst c
    exact wp_pos (by rw [n_le' (by omega) (by omega)]; omega) (wp_fin trivial ⟨X, rfl, hI'⟩)
  refine wp_neg (by rw [n_le' (by omega) (by omega)]; omega) ?_
  by_cases c64 : 64 ≤ (pyS l k n j).2.length
  · have es := pyS_stop l k n c64 (l.length - j)
    rw [show j + (l.length - j) = l.length by omega] at es
    rw [es]
    exact wp_pos (by rw [n_le' (by omega) (by omega)]; omega) (wp_fin trivial ⟨X, rfl, hI'⟩)
  refine wp_neg (by rw [n_le' (by omega) (by omega)]; omega) ?_
  have pa : p_X8_paymentAt N g H T X (nd g n + 14) (nI j) ∧ k_X8_paymentAt N g H T X (nd g n + 14) (nI j) = coD (pg l j) := by
    show wp (KO_X8_paymentAt_0 N g H T (nd g n + 14) (nI j) X) (KF_X8_paymentAt_0 N g H T (nd g n + 14) (nI j) X) (fun z => z = coD (pg l j))
    unfold KO_X8_paymentAt_0 KF_X8_paymentAt_0 KO_X8_paymentAt_22 KF_X8_paymentAt_22
    rw [q1', n_clamp (by omega), i1.J]
    exact wp_neg (n_lt0 (by omega)) (wp_neg (by rw [n_le' (by omega) (by omega)]; omega) (wp_and ((n_in (by omega)).2 (by omega)) (wp_fin trivial (q3 j (by omega)))))
  obtain ⟨l7, lB, l0, l1⟩ := hl j (by omega)
  rw [pa.2]
  refine wp_and pa.1 (wp_call (pay_c (N := N) (g := g) (H := H) (T := T) i2 o1 lB l0 l1 (by omega : n < 16)) ?_)
  rintro ⟨b1, b2, b3⟩
  generalize k_X0_pay N g H T X (g + 18) (coD (pg l j)) (nI n) = z at b1 b2 b3 ⊢
  obtain ⟨z1, Y⟩ := z
  have b1 : bkF (g + 18) X Y := b1
  have fY : cfr (blP g) s Y := i1.trans (b1.1.mono (fun x hx => by unfold blP; omega))
  have rY : cA Y (g + 28) = cA X (g + 28) := b1.1.A _ (by omega)
  have hs : pyS l k n (j + 1) = if (bPay (pyS l k n j).1 (bg (pg l j) 0) (bg (pg l j) 1) (tw (pg l j) 2) (tw (pg l j) 4) (bg (pg l j) 6) n).2 then ((bPay (pyS l k n j).1 (bg (pg l j) 0) (bg (pg l j) 1) (tw (pg l j) 2) (tw (pg l j) 4) (bg (pg l j) 6) n).1, (pyS l k n j).2 ++ [pg l j]) else ((bPay (pyS l k n j).1 (bg (pg l j) 0) (bg (pg l j) 1) (tw (pg l j) 2) (tw (pg l j) 4) (bg (pg l j) 6) n).1, (pyS l k n j).2) := if_neg c64
  generalize bPay (pyS l k n j).1 (bg (pg l j) 0) (bg (pg l j) 1) (tw (pg l j) 2) (tw (pg l j) 4) (bg (pg l j) 6) n = B at b2 b3 hs
  have b2 : bkC Y (g + 18) B.1 := b2
  have b3 : z1 = nI (if B.2 then 1 else 0) := b3
  subst b3
  unfold KO_X7_addPayments_54 KF_X7_addPayments_54 KO_X7_addPayments_64 KF_X7_addPayments_64 KO_X7_addPayments_70 KF_X7_addPayments_70
  cases e : B.2 with
  | false =>
    rw [e] at hs
    have hs : pyS l k n (j + 1) = (B.1, (pyS l k n j).2) := hs
    refine wp_pos rfl ?_
    have st := ih Y ⟨fY, by rw [hs]; exact b2, by rw [hs]; exact i3.same rY⟩ (by omega)
    rw [hs] at st
    rw [n_add]
    exact st
  | true =>
    rw [e] at hs
    have hs : pyS l k n (j + 1) = (B.1, (pyS l k n j).2 ++ [pg l j]) := hs
    refine wp_neg (show ¬ nI 1 = 0 by decide) ?_
    have LY : cL Y (g + 28) = 1024 := by rw [fY.L]; exact hL
    refine wp_call (putCode_c (N := N) (g := g) (H := H) (T := T) (s := Y) (r := g + 28) (a := fr + (pyS l k n j).2.flatten.length) hN lB l7 (by omega) (by omega)) ?_
    rintro ⟨f, f1, f2⟩
    rw [f1]
    have hf : (pyS l k n (j + 1)).2.flatten = (pyS l k n j).2.flatten ++ pg l j := by
      rw [hs]
      simp
    have fZ : cfr (blP g) s (csArow Y (g + 28) f) := fY.trans ((cfr_A _ _ _).mono (fun x hx => Or.inl hx))
    have bZ : bkC (csArow Y (g + 28) f) (g + 18) B.1 := ⟨fun i hi => by rw [cA_other _ _ (by omega), cA_other _ _ (by omega)]; exact b2.1 i hi, b2.2⟩
    have st := ih (csArow Y (g + 28) f) ⟨fZ, by rw [hs]; exact bZ, by
      rw [hf]
      refine (i3.same rY).app (fun i => ?_)
      rw [cA_same, f2 i, l7]⟩ (by omega)
    rw [hf, hs, List.length_append, List.length_append, l7] at st
    rw [n_add, n_add, n_add, Nat.add_assoc]
    exact st
theorem addPayments_c {l : List (List Nat)} {k : Bk} (hN : 100 ≤ N) (n13 : n < 13) (hL : cL s (g + 28) = 1024) (hk : bkC s (g + 18) k) (ok : bkOK k) (hq : qP s (nd g n) l) (e1 : cI s 1 (nd g n) = nI n) (hfr : fr ≤ 300) (hl : ∀ q, q < l.length → (pg l q).length = 7 ∧ isB (pg l q) ∧ bg (pg l q) 0 < 16 ∧ bg (pg l q) 1 < 16) : wp (p_X7_addPayments N g H T s (some (nd g n)) (some (g + 28)) (nI fr)) (k_X7_addPayments N g H T s (some (nd g n)) (some (g + 28)) (nI fr)) (fun z => ∃ X, z = (nI (fr + (pyS l k n l.length).2.flatten.length), csA X (g + 28) 105 (sb (pyS l k n l.length).2.length)) ∧ adI g s X fr (pyS l k n l.length).1 (pyS l k n l.length).2.flatten) := by
  have po := pyS_ok (l := l) (n := n) ok (by omega) hl l.length (Nat.le_refl _)
  show wp (KO_X7_addPayments_0 N g H T (some (nd g n)) (some (g + 28)) (nI fr) s) (KF_X7_addPayments_0 N g H T (some (nd g n)) (some (g + 28)) (nI fr) s) _
  unfold KO_X7_addPayments_0 KF_X7_addPayments_0
  refine wp_seq (addP_l hN n13 hL hk ok hq e1 hfr hl) ?_
  rintro z ⟨X, rfl, hX⟩
  show wp (KO_X7_addPayments_76 N g H T (some (g + 28)) (nI (fr + (pyS l k n l.length).2.flatten.length)) (nI (pyS l k n l.length).2.length) X) (KF_X7_addPayments_76 N g H T (some (g + 28)) (nI (fr + (pyS l k n l.length).2.flatten.length)) (nI (pyS l k n l.length).2.length) X) _
  unfold KO_X7_addPayments_76 KF_X7_addPayments_76
  have LX : cL X (g + 28) = 1024 := by rw [hX.1.L]; exact hL
  have c105 : (nI 105).toNatClampNeg = 105 := n_clamp (by omega)
  rw [zsome, sb2, c105, LX, Nat.mod_eq_of_lt (by omega)]
  exact wp_fin ⟨⟨someN, ((n_in (by omega)).2 (by omega))⟩, trivial⟩ ⟨X, rfl, hX⟩
/-- where a node's proofs stand -/
def pfX (g H T : Nat) (s : cS) (n : Nat) (y : Nat → Option (List Nat)) : Prop := ∀ j, j < T → (y j = none ∧ cP s (nd g n + 23) j = none) ∨ ∃ a m, y j = some m ∧ cP s (nd g n + 23) j = some a ∧ nd g H ≤ a ∧ mS s a m ∧ 1 ≤ m.length ∧ m.length ≤ 72
theorem addE_l (hN : 100 ≤ N) (hT : T ≤ 13) (hn : n < H) (n13 : n < 13) (hL : cL s (g + 28) = 1024) (hk : bkC s (g + 18) (bkN (wN w) n)) (ok : bkOK (bkN (wN w) n)) (eT : cI s 1 (g + 8) = nI T) (eS : cI s 1 (nd g n + 14) = nI T) (e1 : cI s 1 (nd g n) = nI n) (hp : pfX g H T s n (wY w n 2)) (hfr : fr ≤ 120) (hlB : ∀ j m, j < 13 → wY w n 2 j = some m → m.length ≤ 72 ∧ isB m) : wp (KOL_X7_addEvidences_8 N g H T N (some (nd g n)) (some (g + 28)) (nI fr) (nI 0) (nI 0) s) (KL_X7_addEvidences_8 N g H T N (some (nd g n)) (some (g + 28)) (nI fr) (nI 0) (nI 0) s) (fun z => ∃ X, z = (0, some (g + 28), nI (fr + (evS w n T).2.flatten.length), nI (evS w n T).2.length, X) ∧ adI g s X fr (evS w n T).1 (evS w n T).2.flatten) := by
  have po := evS_ok (w := w) (n := n) ok (by omega) hlB
  have h31 : nd g n < nd g H := by unfold nd; omega
  have hg : g + 31 ≤ nd g H := by unfold nd; omega
  refine wp_loop (K := T) (fun j (X : cS) => adI g s X fr (evS w n j).1 (evS w n j).2.flatten) (fun m j X => KOL_X7_addEvidences_8 N g H T m (some (nd g n)) (some (g + 28)) (nI (fr + (evS w n j).2.flatten.length)) (nI (evS w n j).2.length) (nI j) X) (fun m j X => KL_X7_addEvidences_8 N g H T m (some (nd g n)) (some (g + 28)) (nI (fr + (evS w n j).2.flatten.length)) (nI (evS w n j).2.length) (nI j) X) (fun m j X hj hI ih => ?_) 0 N s (by omega) (by omega) ⟨cfr.refl, hk, fun i => by rw [if_neg (by show ¬ (fr ≤ i ∧ i < fr + 0); omega)]⟩
  have hI' := hI
  obtain ⟨i1, i2, i3⟩ := hI
  obtain ⟨o1, o2, o3, o4⟩ := po j (by omega)
  have eT' : cI X 1 (g + 8) = nI T := by rw [i1.I _ _ (by unfold blP; omega)]; exact eT
  have e1' : cI X 1 (nd g n) = nI n := by rw [i1.I 1 (nd g n) (blP_n (o := 0))]; exact e1
  have eS' : cI X 1 (nd g n + 14) = nI T := by rw [i1.I _ _ blP_n]; exact eS
  have xP : cP X = cP s := i1.2.2.2.2.2.1
  unfold KOL_X7_addEvidences_8 KL_X7_addEvidences_8 KOB_X7_addEvidences_8 KB_X7_addEvidences_8
  rw [zsome, eT', e1']
  refine wp_and someN ?_
  by_cases c : j = T
  · subst c
    exact wp_pos (by rw [n_le' (by omega) (by omega)]; omega) (wp_fin trivial ⟨X, rfl, hI'⟩)
  refine wp_neg (by rw [n_le' (by omega) (by omega)]; omega) ?_
  by_cases c2 : 2 ≤ (evS w n j).2.length
  · have es := evS_stop w n c2 (T - j)
    rw [show j + (T - j) = T by omega] at es
    rw [es]
    exact wp_pos (by rw [n_le' (by omega) (by omega)]; omega) (wp_fin trivial ⟨X, rfl, hI'⟩)
  refine wp_neg (by rw [n_le' (by omega) (by omega)]; omega) ?_
  have pa : p_X8_proofOf N g H T X (nd g n + 14) (nI j) ∧ k_X8_proofOf N g H T X (nd g n + 14) (nI j) = cP s (nd g n + 23) j := by
    show wp (KO_X8_proofOf_0 N g H T (nd g n + 14) (nI j) X) (KF_X8_proofOf_0 N g H T (nd g n + 14) (nI j) X) (fun z => z = cP s (nd g n + 23) j)
    unfold KO_X8_proofOf_0 KF_X8_proofOf_0 KO_X8_proofOf_22 KF_X8_proofOf_22
    rw [eS', n_clamp (by omega), xP]
    exact wp_neg (n_lt0 (by omega)) (wp_neg (by rw [n_le' (by omega) (by omega)]; omega) (wp_and ((n_in (by omega)).2 (by omega)) (wp_fin trivial rfl)))
  rw [pa.2]
  refine wp_and pa.1 ?_
  rcases hp j (by omega) with ⟨y1, y2⟩ | ⟨a, m', y1, y2, y3, y4, y5, y6⟩
  · rw [y2]
    have hs : evS w n (j + 1) = evS w n j := by
      show (if 2 ≤ (evS w n j).2.length then evS w n j else match wY w n 2 j with | none => evS w n j | some m => if (bFine (evS w n j).1 j n).2 then ((bFine (evS w n j).1 j n).1, (evS w n j).2 ++ [m.drop 1]) else ((bFine (evS w n j).1 j n).1, (evS w n j).2)) = _
      rw [if_neg c2, y1]
    refine wp_pos rfl ?_
    unfold KO_X7_addEvidences_92 KF_X7_addEvidences_92
    have st := ih X (by rw [hs]; exact hI') (by omega)
    rw [hs] at st
    rw [n_add]
    exact st
  rw [y2]
  refine wp_neg someN (wp_call (punish_ok (N := N) (g := g) (H := H) (T := T) (q := j) (m := n) i2 o1 (by omega) (by omega)) ?_)
  rintro ⟨b1, b2, b3⟩
  generalize k_X0_punish N g H T X (g + 18) (nI j) (nI n) = z at b1 b2 b3 ⊢
  obtain ⟨z1, Y⟩ := z
  have b1 : bkF (g + 18) X Y := b1
  have fY : cfr (blP g) s Y := i1.trans (b1.1.mono (fun x hx => by unfold blP; omega))
  have rY : cA Y (g + 28) = cA X (g + 28) := b1.1.A _ (by omega)
  have hs : evS w n (j + 1) = if (bFine (evS w n j).1 j n).2 then ((bFine (evS w n j).1 j n).1, (evS w n j).2 ++ [m'.drop 1]) else ((bFine (evS w n j).1 j n).1, (evS w n j).2) := by
    show (if 2 ≤ (evS w n j).2.length then evS w n j else match wY w n 2 j with | none => evS w n j | some m => if (bFine (evS w n j).1 j n).2 then ((bFine (evS w n j).1 j n).1, (evS w n j).2 ++ [m.drop 1]) else ((bFine (evS w n j).1 j n).1, (evS w n j).2)) = _
    rw [if_neg c2, y1]
  generalize bFine (evS w n j).1 j n = B at b2 b3 hs
  have b2 : bkC Y (g + 18) B.1 := b2
  have b3 : z1 = nI (if B.2 then 1 else 0) := b3
  subst b3
  unfold KO_X7_addEvidences_58 KF_X7_addEvidences_58
  cases e : B.2 with
  | false =>
    rw [e] at hs
    have hs : evS w n (j + 1) = (B.1, (evS w n j).2) := hs
    refine wp_pos rfl ?_
    unfold KO_X7_addEvidences_92 KF_X7_addEvidences_92
    have st := ih Y ⟨fY, by rw [hs]; exact b2, by rw [hs]; exact i3.same rY⟩ (by omega)
    rw [hs] at st
    rw [n_add]
    exact st
  | true =>
    rw [e] at hs
    have hs : evS w n (j + 1) = (B.1, (evS w n j).2 ++ [m'.drop 1]) := hs
    refine wp_neg (show ¬ nI 1 = 0 by decide) ?_
    have LY : cL Y (g + 28) = 1024 := by rw [fY.L]; exact hL
    have na : ¬ blP g a := by unfold blP; omega
    have na2 : ¬ blP g (a + 2) := by unfold blP; omega
    have I2 : cI Y 2 a = nI m'.length := by rw [fY.I _ _ na]; exact y4.2.1
    have A2 : cA Y (a + 2) = cA s (a + 2) := fY.A _ na2
    have L2 : cL Y (a + 2) = cL s (a + 2) := fY.L _
    have l128 := y4.2.2.1.1
    have hfl : (evS w n j).2.flatten.length ≤ 142 := by omega
    have c1 : (nI 1).toNatClampNeg = 1 := rfl
    have yI : cI (Y) 2 a = nI m'.length := I2
    show wp (¬ some a = none ∧ _) _ _
    rw [zsome, zsome, yI, n_sub (by omega), c1, n_clamp (by omega), n_clamp (by omega), LY, L2, A2]
    refine wp_and someN (wp_and ⟨someN, ⟨by decide, n_lt0 (by omega), n_lt0 (by omega)⟩, by omega, by omega⟩ ?_)
    have hr : ∀ i, va_cpy (cA s (a + 2)) (cA Y (g + 28)) 1 (fr + (evS w n j).2.flatten.length) (m'.length - 1) i = if fr + (evS w n j).2.flatten.length ≤ i ∧ i < fr + (evS w n j).2.flatten.length + (m'.drop 1).length then sb (bg (m'.drop 1) (i - (fr + (evS w n j).2.flatten.length))) else cA X (g + 28) i := fun i => by
      unfold va_cpy
      rw [List.length_drop]
      by_cases d : fr + (evS w n j).2.flatten.length ≤ i ∧ i < fr + (evS w n j).2.flatten.length + (m'.length - 1)
      · rw [if_pos d, if_pos d, y4.2.2.1.2.2.1 _ (by omega), bg_drop]
      · rw [if_neg d, if_neg d, rY]
    generalize va_cpy (cA s (a + 2)) (cA Y (g + 28)) 1 (fr + (evS w n j).2.flatten.length) (m'.length - 1) = f at hr ⊢
    unfold KO_X7_addEvidences_79 KF_X7_addEvidences_79 KO_X7_addEvidences_92 KF_X7_addEvidences_92
    have fZ : cfr (blP g) s (csArow Y (g + 28) f) := fY.trans ((cfr_A _ _ _).mono (fun x hx => Or.inl hx))
    have bZ : bkC (csArow Y (g + 28) f) (g + 18) B.1 := ⟨fun i hi => by rw [cA_other _ _ (by omega), cA_other _ _ (by omega)]; exact b2.1 i hi, b2.2⟩
    have zI : cI (csArow Y (g + 28) f) 2 a = nI m'.length := yI
    have rZ : ∀ i, cA (csArow Y (g + 28) f) (g + 28) i = f i := fun i => by rw [cA_same]
    generalize csArow Y (g + 28) f = Z at fZ bZ zI rZ ⊢
    have hf : (evS w n (j + 1)).2.flatten = (evS w n j).2.flatten ++ m'.drop 1 := by
      rw [hs]
      simp
    have st := ih Z ⟨fZ, by rw [hs]; exact bZ, by
      rw [hf]
      refine i3.app (fun i => ?_)
      rw [rZ i]
      exact hr i⟩ (by omega)
    rw [hf, hs, List.length_append, List.length_append, List.length_drop] at st
    rw [zsome, zI, n_sub (by omega), n_add, n_add, n_add, Nat.add_assoc]
    exact wp_and someN st
theorem addEvidences_c (hN : 100 ≤ N) (hT : T ≤ 13) (hn : n < H) (n13 : n < 13) (hL : cL s (g + 28) = 1024) (hk : bkC s (g + 18) (bkN (wN w) n)) (ok : bkOK (bkN (wN w) n)) (eT : cI s 1 (g + 8) = nI T) (eS : cI s 1 (nd g n + 14) = nI T) (e1 : cI s 1 (nd g n) = nI n) (hp : pfX g H T s n (wY w n 2)) (hfr : fr ≤ 120) (hlB : ∀ j m, j < 13 → wY w n 2 j = some m → m.length ≤ 72 ∧ isB m) : wp (p_X7_addEvidences N g H T s (some (nd g n)) (some (g + 28)) (nI fr)) (k_X7_addEvidences N g H T s (some (nd g n)) (some (g + 28)) (nI fr)) (fun z => ∃ X, z = (nI (fr + (evS w n T).2.flatten.length), csA X (g + 28) 106 (sb (evS w n T).2.length)) ∧ adI g s X fr (evS w n T).1 (evS w n T).2.flatten) := by
  have po := evS_ok (w := w) (n := n) ok (by omega) hlB T hT
  show wp (KO_X7_addEvidences_0 N g H T (some (nd g n)) (some (g + 28)) (nI fr) s) (KF_X7_addEvidences_0 N g H T (some (nd g n)) (some (g + 28)) (nI fr) s) _
  unfold KO_X7_addEvidences_0 KF_X7_addEvidences_0
  refine wp_seq (addE_l hN hT hn n13 hL hk ok eT eS e1 hp hfr hlB) ?_
  rintro z ⟨X, rfl, hX⟩
  show wp (KO_X7_addEvidences_98 N g H T (some (g + 28)) (nI (fr + (evS w n T).2.flatten.length)) (nI (evS w n T).2.length) X) (KF_X7_addEvidences_98 N g H T (some (g + 28)) (nI (fr + (evS w n T).2.flatten.length)) (nI (evS w n T).2.length) X) _
  unfold KO_X7_addEvidences_98 KF_X7_addEvidences_98
  have LX : cL X (g + 28) = 1024 := by rw [hX.1.L]; exact hL
  have c106 : (nI 106).toNatClampNeg = 106 := n_clamp (by omega)
  rw [zsome, sb2, c106, LX, Nat.mod_eq_of_lt (by omega)]
  exact wp_fin ⟨⟨someN, ((n_in (by omega)).2 (by omega))⟩, trivial⟩ ⟨X, rfl, hX⟩
end
end

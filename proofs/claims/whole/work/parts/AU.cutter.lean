section
/-! THE CLASS'S NODE UTTERS A MESSAGE -/
/-- an own message is noted, held, sent -/
def utW (w : Wd) (n T st : Nat) (m : List Nat) : Wd := if (aOwn w n (ownT w n 3 (st :: m))).1 then aSend (sN (aOwn w n (ownT w n 3 (st :: m))).2 n 3 st) n T m else (aOwn w n (ownT w n 3 (st :: m))).2
section
variable {F N g H T n : Nat} {s s' s1 s2 : cS} {ct ct' : Nat → List Nat} {hd : List Nat} {w : Wd} {pe : Nat → Int} {a st : Nat} {m : List Nat} {z z' : Nat → Nat → Option (List Nat)}
theorem sl_all {b : List Nat} : sl b 0 (b.length - 0) = b := by
  refine by_ext (by rw [sl_len]; omega) (fun i hi => ?_)
  rw [sl_len] at hi
  rw [sl_in hi, Nat.zero_add]
theorem hoZ_cg (h : ∀ f i, f = 4 ∨ f = 5 → z f i = z' f i) : ∀ f i, f = 4 ∨ f = 5 → hoZ z m f i = hoZ z' m f i := fun f i hf => by
  have hF : hoF m = 4 ∨ hoF m = 5 := by
    unfold hoF
    split
    · exact Or.inl rfl
    · exact Or.inr rfl
  unfold hoZ
  rw [h _ _ hF]
  cases z' (hoF m) (hoI m) with
  | none =>
    show zf z (hoF m) (hoI m) m f i = zf z' (hoF m) (hoI m) m f i
    unfold zf
    rw [h f i hf]
  | some q => exact h f i hf
theorem aHeld_z (hm : hoM T m) (h1 : bg m 1 = n) (h2 : tw m 2 = (wN w n 1).toNat) : wY (aHeld w n m) n = hoZ (wY w n) m ∧ (∀ b, b ≠ n → wY (aHeld w n m) b = wY w b) ∧ wN (aHeld w n m) = wN w ∧ wP (aHeld w n m) = wP w ∧ wX (aHeld w n m) = wX w ∧ wK (aHeld w n m) = wK w ∧ wT (aHeld w n m) = wT w ∧ wL (aHeld w n m) = wL w := by
  have put : ∀ f i, wY (sBy w n f i (some m)) n = zf (wY w n) f i m := fun f i => funext fun f' => funext fun i' => by
    show (if n = n ∧ f' = f ∧ i' = i then some m else w.2.1 n f' i') = if f' = f ∧ i' = i then some m else w.2.1 n f' i'
    by_cases c : f' = f ∧ i' = i
    · rw [if_pos ⟨rfl, c⟩, if_pos c]
    · rw [if_neg (fun q => c q.2), if_neg c]
  have oth : ∀ f i b, b ≠ n → wY (sBy w n f i (some m)) b = wY w b := fun f i b hb => funext fun f' => funext fun i' => by
    show (if b = n ∧ f' = f ∧ i' = i then some m else w.2.1 b f' i') = w.2.1 b f' i'
    rw [if_neg (fun q => hb q.1)]
  unfold aHeld
  by_cases c : bg m 0 = 1
  · rw [if_pos c]
    have ef : hoF m = 4 := if_pos c
    have ei : hoI m = hdI w n m := by
      unfold hoI hdI
      rw [if_pos c, h2]
    unfold hoZ
    rw [ef, ei]
    cases e : wY w n 4 (hdI w n m) with
    | none => exact ⟨put _ _, oth _ _, rfl, rfl, rfl, rfl, rfl, rfl⟩
    | some q => exact ⟨rfl, fun _ _ => rfl, rfl, rfl, rfl, rfl, rfl, rfl⟩
  · rw [if_neg c]
    have ef : hoF m = 5 := if_neg c
    have ei : hoI m = vtI w n m := by
      unfold hoI vtI
      rw [if_neg c, h2, h1]
      congr 1
      rcases hm.1 with q | ⟨q | q, _⟩
      · exact absurd q c
      · rw [q]
        rfl
      · rw [q]
        rfl
    unfold hoZ
    rw [ef, ei]
    cases e : wY w n 5 (vtI w n m) with
    | none => exact ⟨put _ _, oth _ _, rfl, rfl, rfl, rfl, rfl, rfl⟩
    | some q => exact ⟨rfl, fun _ _ => rfl, rfl, rfl, rfl, rfl, rfl, rfl⟩
theorem aHeld_K {k : Sk} : aHeld (sK w k) n m = sK (aHeld w n m) k := by
  unfold aHeld
  have e4 : wY (sK w k) n 4 (hdI (sK w k) n m) = wY w n 4 (hdI w n m) := rfl
  have e5 : wY (sK w k) n 5 (vtI (sK w k) n m) = wY w n 5 (vtI w n m) := rfl
  by_cases c : bg m 0 = 1
  · rw [if_pos c, if_pos c, e4]
    cases wY w n 4 (hdI w n m) <;> rfl
  · rw [if_neg c, if_neg c, e5]
    cases wY w n 5 (vtI w n m) <;> rfl
theorem aWr_k {t : List Nat} {f k : Nat} (h1 : k ≠ 12) (h2 : k ≠ 14) (h3 : k < 100) : wN (aWr w n t f) n k = wN w n k := by
  show (if n = n ∧ k = 12 then _ else if n = n ∧ k = 14 then _ else if n = n ∧ 100 + f ≤ k ∧ k < 100 + f + nMny t then _ else w.1 n k) = w.1 n k
  rw [if_neg (fun q => h1 q.2), if_neg (fun q => h2 q.2), if_neg (fun q => by omega)]
theorem utter_C (hN : 100 ≤ N) (h : CR F g H T s ct (a :: hd) w pe) (hn : n < H) (hl : hd.length ≤ 25) (hu : wN w n 0 = 1) (h1 : 1 ≤ wN w n 1 ∧ wN w n 1 ≤ 41) (h15 : 0 ≤ wN w n 15 ∧ wN w n 15 ≤ 99) (h12 : 0 ≤ wN w n 12 ∧ wN w n 12 ≤ 1000) (h17 : 0 ≤ wN w n 17) (hst : st ≤ 2) (hm : hoM T (ct a)) (hb1 : bg (ct a) 1 = n) (hb2 : tw (ct a) 2 = (wN w n 1).toNat) (hlen : (ct a).length ≤ 900) (h4 : cI s 4 a = nI 1) (hp : pe n = -1) (ow : owF T n (wN w n) (wY w n)) : wp (p_X7_utter N g H T s (some (nd g n)) (some a) (nI st)) (k_X7_utter N g H T s (some (nd g n)) (some a) (nI st)) (fun s' => CR F g H T s' ct hd (utW w n T st (ct a)) pe) := by
  have cb := h.1.bb
  have hT := cb.2.1
  have n13 : n < 13 := by omega
  show wp (KO_X7_utter_0 N g H T (some (nd g n)) (some a) (nI st) s) (KF_X7_utter_0 N g H T (some (nd g n)) (some a) (nI st) s) _
  unfold KO_X7_utter_0 KF_X7_utter_0
  have i9 : cI s 9 (nd g n) = iI (wN w n 1) := (h.node hn).1.2.2.1
  rw [zsome, i9]
  refine wp_and someN (wp_call (jot_C (N := N) (kd := 3) (b1 := st) (fr := 0) (mo := some a) (x := ct a) hN h hn (by decide) h1 (by omega) h15 h12 (Or.inr ⟨a, rfl, us_self, Nat.zero_le _, sl_all.symm⟩) hlen) ?_)
  rintro ⟨jt, jf⟩
  generalize k_X4_jot N g H T s (nd g n + 1) (nI 3) (iI (wN w n 1)) (nI st) (some a) (nI 0) = Z at jt jf ⊢
  unfold KO_X7_utter_15 KF_X7_utter_15
  rcases jt with ⟨j1, j2, j3⟩ | ⟨j1, j2, j3, j4⟩
  · rw [j2]
    refine wp_neg (by decide) (wp_and someN ?_)
    have eW : utW w n T st (ct a) = aSend (sN (aOwn w n (ownT w n 3 (st :: ct a))).2 n 3 st) n T (ct a) := by
      unfold utW
      rw [if_pos j1]
    rw [eW]
    obtain ⟨o1, o2, o3, o4, o5, o6, o7, o8⟩ := aOwn_w j1
    generalize (aOwn w n (ownT w n 3 (st :: ct a))).2 = w1 at j3 o1 o2 o3 o4 o5 o6 o7 o8 ⊢
    have e0 : wN w1 n 0 = 1 := by rw [o2 0 (by omega)]; exact hu
    have e1 : wN w1 n 1 = wN w n 1 := o2 1 (by omega)
    have e17 : wN w1 n 17 = wN w n 17 := o2 17 (by omega)
    obtain ⟨z, cz, oz⟩ := j3.z_ hn
    have oz1 := oz.1 e0
    rw [zsome]
    obtain ⟨q1, q2, q3, q4, q5, q6, q7, q8, q9, q10⟩ := cz.nz.1
    rw [q9, iI_addn]
    have a1 : CRz F g H T (csI Z.2 17 (nd g n) (iI (wN w1 n 17 + (1 : Nat)))) ct (a :: hd) w1 pe n (fun k => if k = 17 then wN w1 n 17 + (1 : Nat) else wN w1 n k) (wY w1 n) (wP w1 n) (wX w1 n) (pe n) z := by
      refine cz.n0 hn ?_ (fun j hj => if_neg (by omega))
      unfold qN beN
      rw [cI_same, cI_other _ _ (Or.inl (by decide)), cI_other _ _ (Or.inl (by decide)), cI_other _ _ (Or.inl (by decide)), cI_other _ _ (Or.inl (by decide)), cI_other _ _ (Or.inl (by decide)), cI_other _ _ (Or.inl (by decide)), cI_other _ _ (Or.inl (by decide)), cI_other _ _ (Or.inl (by decide)), cI_other _ _ (Or.inl (by decide))]
      exact ⟨q1, q2, q3, q4, q5, q6, q7, q8, rfl, q10⟩
    have f1 : ∀ b, cI (csI Z.2 17 (nd g n) (iI (wN w1 n 17 + (1 : Nat)))) 4 b = cI Z.2 4 b := fun b => cI_other _ _ (Or.inl (by decide))
    generalize csI Z.2 17 (nd g n) (iI (wN w1 n 17 + (1 : Nat))) = s1 at a1 f1 ⊢
    obtain ⟨u1, u2, u3, u4, u5, u6, u7, u8, u9, u10⟩ := a1.nz.1
    have a2 : CRz F g H T (csI s1 11 (nd g n) (nI st)) ct (a :: hd) w1 pe n (fun k => if k = 17 then wN w1 n 17 + (1 : Nat) else if k = 3 then (st : Int) else wN w1 n k) (wY w1 n) (wP w1 n) (wX w1 n) (pe n) z := by
      refine a1.n0 hn ?_ (fun j hj => ?_)
      · unfold qN beN
        rw [cI_same, cI_other _ _ (Or.inl (by decide)), cI_other _ _ (Or.inl (by decide)), cI_other _ _ (Or.inl (by decide)), cI_other _ _ (Or.inl (by decide)), cI_other _ _ (Or.inl (by decide)), cI_other _ _ (Or.inl (by decide)), cI_other _ _ (Or.inl (by decide)), cI_other _ _ (Or.inl (by decide)), cI_other _ _ (Or.inl (by decide))]
        exact ⟨u1, u2, u3, u4, (iI_n st).symm, u6, u7, u8, u9, u10⟩
      · show (if j = 17 then wN w1 n 17 + (1 : Nat) else if j = 3 then (st : Int) else wN w1 n j) = if j = 17 then wN w1 n 17 + (1 : Nat) else wN w1 n j
        by_cases c : j = 17
        · rw [if_pos c, if_pos c]
        · rw [if_neg c, if_neg c, if_neg (by omega)]
    have f2 : ∀ b, cI (csI s1 11 (nd g n) (nI st)) 4 b = cI Z.2 4 b := fun b => (cI_other _ _ (Or.inl (by decide))).trans (f1 b)
    generalize csI s1 11 (nd g n) (nI st) = s2 at a2 f2 ⊢
    have h4' : cI s2 4 a = nI 1 := by
      rw [f2, jf.1 a (by simp)]
      exact h4
    unfold KO_X7_utter_33 KF_X7_utter_33
    rw [zsome]
    refine wp_and someN (wp_call (hold_Z (N := N) (a := a) (by omega) a2 hn (by show hd.length + 1 ≤ 30; omega) hT us_self hm h4') ?_)
    rintro ⟨a3, -, -⟩
    generalize k_X8_hold N g H T s2 (nd g n + 14) (some a) = s3 at a3 ⊢
    -- the world that is reached, but for the sky
    have W0 : ∀ W : Wd, W = sN (sBy (sN w1 n 3 st) n 8 (wN (sN w1 n 3 st) n 17).toNat (some (ct a))) n 17 (((wN (sN w1 n 3 st) n 17).toNat + 1 : Nat) : Int) → CR F g H T s3 ct (a :: hd) (aHeld W n (ct a)) pe ∧ aSend (sN w1 n 3 st) n T (ct a) = sK (aHeld W n (ct a)) (pstN (wK W) n (wT W) (ct a) (fun j => decide (j ≠ n)) T) ∧ wK (aHeld W n (ct a)) = wK W ∧ wT (aHeld W n (ct a)) = wT W := fun W eW => by
      have wn : wN W n = fun k => if k = 17 then wN w1 n 17 + (1 : Nat) else if k = 3 then (st : Int) else wN w1 n k := funext fun k => by
        rw [eW]
        have t17 : wN (sN w1 n 3 st) n 17 = wN w1 n 17 := N_o _ _ _ _ (Or.inr (by decide))
        rw [t17]
        by_cases c : k = 17
        · rw [c, N_s]
          show (((wN w1 n 17).toNat + 1 : Nat) : Int) = wN w1 n 17 + (1 : Nat)
          omega
        · rw [N_o _ _ _ _ (Or.inr c)]
          show wN (sN w1 n 3 st) n k = if k = 17 then wN w1 n 17 + (1 : Nat) else if k = 3 then (st : Int) else wN w1 n k
          rw [if_neg c]
          by_cases d : k = 3
          · rw [d, N_s, if_pos rfl]
          · rw [N_o _ _ _ _ (Or.inr d), if_neg d]
      have wy : ∀ f i, f ≠ 8 → wY W n f i = wY w1 n f i := fun f i hf => by
        rw [eW]
        exact B_o (sN w1 n 3 st) n 8 _ _ (Or.inr (Or.inl hf))
      have wyo : ∀ b, b ≠ n → wY W b = wY w1 b := fun b hb => funext fun f => funext fun i => by
        rw [eW]
        exact B_o (sN w1 n 3 st) n 8 _ _ (Or.inl hb)
      have wno : ∀ b, b ≠ n → wN W b = wN w1 b := fun b hb => funext fun k => by
        rw [eW, N_o _ _ _ _ (Or.inl hb)]
        exact N_o w1 n 3 st (Or.inl hb)
      have wo : wP W = wP w1 ∧ wX W = wX w1 ∧ wK W = wK w1 ∧ wT W = wT w1 ∧ wL W = wL w1 := by
        rw [eW]
        exact ⟨rfl, rfl, rfl, rfl, rfl⟩
      have w1h : (wN W n 1).toNat = (wN w n 1).toNat := by
        rw [wn]
        show (wN w1 n 1).toNat = _
        rw [e1]
      obtain ⟨y1, y2, y3, y4, y5, y6, y7, y8⟩ := aHeld_z (w := W) hm hb1 (by rw [w1h]; exact hb2)
      refine ⟨?_, ?_, y6, y7⟩
      · have a4 := a3.y45 (y' := hoZ (wY W n) (ct a)) (fun f f4 f5 f8 => by
          have hF : hoF (ct a) = 4 ∨ hoF (ct a) = 5 := by
            unfold hoF
            split
            · exact Or.inl rfl
            · exact Or.inr rfl
          funext i
          unfold hoZ
          cases wY W n (hoF (ct a)) (hoI (ct a)) with
          | none =>
            show zf (wY W n) (hoF (ct a)) (hoI (ct a)) (ct a) f i = _
            rw [zf_o (Or.inl (by omega))]
            exact wy f i f8
          | some q => exact wy f i f8)
        refine a4.cr (w' := aHeld W n (ct a)) ⟨fun _ f i hf => ?_, fun q => absurd ?_ q⟩ (fun b hb => ⟨?_, ?_, ?_, ?_⟩) ?_ ?_ ?_ (fun _ _ => rfl) rfl ?_ y1 ?_ ?_
        · refine hoZ_cg (fun f i hf => ?_) f i hf
          rw [oz1 f i hf]
          exact (wy f i (by omega)).symm
        · show (if (0 : Nat) = 17 then wN w1 n 17 + (1 : Nat) else if (0 : Nat) = 3 then (st : Int) else wN w1 n 0) = 1
          rw [if_neg (by decide), if_neg (by decide)]
          exact e0
        · rw [y3]
          exact wno b hb
        · rw [y2 b hb]
          exact wyo b hb
        · rw [y4, wo.1]
        · rw [y5, wo.2.1]
        · rw [y6, wo.2.2.1]
        · rw [y7, wo.2.2.2.1]
        · rw [y8, wo.2.2.2.2]
        · rw [y3]
          exact wn
        · rw [y4, wo.1]
        · rw [y5, wo.2.1]
      · unfold aSend aAll
        rw [← eW, aHeld_K]
    obtain ⟨b1, b2, b3, b4⟩ := W0 _ rfl
    rw [b2]
    generalize sN (sBy (sN w1 n 3 st) n 8 (wN (sN w1 n 3 st) n 17).toNat (some (ct a))) n 17 (((wN (sN w1 n 3 st) n 17).toNat + 1 : Nat) : Int) = W at b1 b2 b3 b4 ⊢
    unfold KO_X7_utter_41 KF_X7_utter_41
    have i1 : cI s3 1 (nd g n) = nI n := (b1.node hn).1.1
    rw [zsome, i1]
    refine wp_and someN (wp_call (spread_C (N := N) (m := a) (f := n) (b := n) (c := n) hN b1 (by simp) (by omega) (by omega) (by omega)) ?_)
    rintro ⟨c1, -⟩
    generalize k_X10_spread N g H T s3 (g + 8) (nI n) (some a) (nI n) (nI n) = s4 at c1 ⊢
    have eP : (fun j => decide (j ≠ n ∧ j ≠ n ∧ j ≠ n)) = fun j => decide (j ≠ n) := funext fun j => by
      by_cases c : j = n
      · simp [c]
      · simp [c]
    unfold aOn at c1
    rw [eP, b3, b4] at c1
    unfold KO_X7_utter_61 KF_X7_utter_61 KO_X7_utter_68 KF_X7_utter_68
    obtain ⟨d1, d2⟩ := drop_C (N := N) c1 (by omega)
    exact wp_and someN (wp_fin ⟨d1, trivial⟩ d2.1)
  · rw [j2]
    have eW : utW w n T st (ct a) = aFall (aWr w n (ownT w n 3 (st :: ct a)) (80 + 2 * (wN w n 15).toNat)) n := by
      unfold utW
      rw [if_neg (by rw [j1]; decide)]
      exact j4
    rw [eW]
    have k0 := aWr_k (w := w) (n := n) (t := ownT w n 3 (st :: ct a)) (f := 80 + 2 * (wN w n 15).toNat) (k := 0) (by decide) (by decide) (by decide)
    have k1 := aWr_k (w := w) (n := n) (t := ownT w n 3 (st :: ct a)) (f := 80 + 2 * (wN w n 15).toNat) (k := 1) (by decide) (by decide) (by decide)
    have k17 := aWr_k (w := w) (n := n) (t := ownT w n 3 (st :: ct a)) (f := 80 + 2 * (wN w n 15).toNat) (k := 17) (by decide) (by decide) (by decide)
    have ky : wY (aWr w n (ownT w n 3 (st :: ct a)) (80 + 2 * (wN w n 15).toNat)) = wY w := rfl
    generalize aWr w n (ownT w n 3 (st :: ct a)) (80 + 2 * (wN w n 15).toNat) = w1 at j3 k0 k1 k17 ky ⊢
    have ow' : owF T n (wN w1 n) (wY w1 n) := by
      rw [ky]
      unfold owF owH
      rw [k1, k17]
      exact ow
    rw [zsome]
    have fl := fall_C (N := N) hN j3 hn (by show hd.length + 1 ≤ 30; omega) (by rw [k0]; exact hu) (by rw [k1]; exact h1) ow'
    refine wp_pos rfl (wp_and ⟨someN, fl.1⟩ ?_)
    have c1 := fl.2
    generalize k_X6_fall N g H T Z.2 (nd g n) = s2 at c1 ⊢
    have ep : (fun m => if m = n then -1 else pe m) = pe := funext fun m => by
      by_cases c : m = n
      · rw [if_pos c, c, hp]
      · rw [if_neg c]
    rw [ep] at c1
    unfold KO_X7_utter_68 KF_X7_utter_68
    obtain ⟨d1, d2⟩ := drop_C (N := N) c1 (by omega)
    exact wp_and someN (wp_fin ⟨d1, trivial⟩ d2.1)
end
end
